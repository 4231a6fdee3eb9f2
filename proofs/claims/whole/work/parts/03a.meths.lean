abbrev M_Top_init : am_M := (⟨"MovedSpan", "<init>", "()V"⟩, prog_1_method_1_code, 2, none, none)
abbrev M_Object_init : am_M := (⟨"java/lang/Object", "<init>", "()V"⟩, object_method_1_code, 1, none, none)
abbrev M_River_init : am_M := (⟨"MovedSpan$River", "<init>", "()V"⟩, prog_7_method_1_code, 1, none, none)
abbrev M_State_init : am_M := (⟨"MovedSpan$State", "<init>", "()V"⟩, prog_9_method_1_code, 1, none, none)
abbrev M_Past_init : am_M := (⟨"MovedSpan$Past", "<init>", "()V"⟩, prog_5_method_1_code, 2, none, none)
abbrev M_Reader_init : am_M := (⟨"MovedSpan$Reader", "<init>", "()V"⟩, prog_6_method_1_code, 1, none, none)
abbrev M_Tokens_init : am_M := (⟨"MovedSpan$Tokens", "<init>", "()V"⟩, prog_10_method_1_code, 1, none, none)
abbrev M_Law_init : am_M := (⟨"MovedSpan$Law", "<init>", "(Z)V"⟩, prog_4_method_1_code, 2, none, none)
abbrev M_Ahead_init : am_M := (⟨"MovedSpan$Ahead", "<init>", "(LMovedSpan$River;LMovedSpan$State;)V"⟩, prog_2_method_1_code, 3, none, none)
abbrev M_Weeks_init : am_M := (⟨"MovedSpan$Weeks", "<init>", "(LMovedSpan$River;LMovedSpan$State;LMovedSpan$Ahead;)V"⟩, prog_12_method_1_code, 4, none, none)
abbrev M_Sightings_init : am_M := (⟨"MovedSpan$Sightings", "<init>", "(LMovedSpan$River;LMovedSpan$State;)V"⟩, prog_8_method_1_code, 3, none, none)
abbrev M_Chances_init : am_M := (⟨"MovedSpan$Chances", "<init>", "(LMovedSpan$River;LMovedSpan$State;)V"⟩, prog_3_method_1_code, 3, none, none)
abbrev M_Tray_init : am_M := (⟨"MovedSpan$Tray", "<init>", "()V"⟩, prog_11_method_1_code, 1, none, none)
abbrev M_Top_feed : am_M := (⟨"MovedSpan", "feed", "(IIIII)I"⟩, prog_1_method_2_code, 6, (some FieldType.int), none)
abbrev M_Top_putBytes : am_M := (⟨"MovedSpan", "putBytes", "(I)V"⟩, prog_1_method_42_code, 3, none, none)
abbrev M_Top_river : am_M := (⟨"MovedSpan", "river", "(I)I"⟩, prog_1_method_3_code, 3, (some FieldType.int), none)
abbrev M_Reader_read : am_M := (⟨"MovedSpan$Reader", "read", "([BI)I"⟩, prog_6_method_2_code, 4, (some FieldType.int), none)
abbrev M_Tokens_cut : am_M := (⟨"MovedSpan$Tokens", "cut", "([BI)V"⟩, prog_10_method_2_code, 7, none, none)
abbrev M_Tokens_isLetter : am_M := (⟨"MovedSpan$Tokens", "isLetter", "(I)Z"⟩, prog_10_method_4_code, 1, (some FieldType.boolean), none)
abbrev M_Tokens_endOf : am_M := (⟨"MovedSpan$Tokens", "endOf", "([BIIZ)I"⟩, prog_10_method_6_code, 5, (some FieldType.int), none)
abbrev M_Tokens_isDigit : am_M := (⟨"MovedSpan$Tokens", "isDigit", "(I)Z"⟩, prog_10_method_5_code, 1, (some FieldType.boolean), none)
abbrev M_Tokens_wordKind : am_M := (⟨"MovedSpan$Tokens", "wordKind", "([BII)I"⟩, prog_10_method_8_code, 5, (some FieldType.int), none)
abbrev M_String_length : am_M := (⟨"java/lang/String", "length", "()I"⟩, prog_18_method_54_code, 1, (some FieldType.int), none)
abbrev M_String_coder : am_M := (⟨"java/lang/String", "coder", "()B"⟩, prog_18_method_152_code, 1, (some FieldType.byte), none)
abbrev M_String_charAt : am_M := (⟨"java/lang/String", "charAt", "(I)C"⟩, prog_18_method_56_code, 2, (some FieldType.char), none)
abbrev M_String_isLatin1 : am_M := (⟨"java/lang/String", "isLatin1", "()Z"⟩, prog_18_method_154_code, 1, (some FieldType.boolean), none)
abbrev M_StringLatin1_charAt : am_M := (⟨"java/lang/StringLatin1", "charAt", "([BI)C"⟩, prog_19_method_2_code, 2, (some FieldType.char), none)
abbrev M_String_checkIndex : am_M := (⟨"java/lang/String", "checkIndex", "(II)V"⟩, prog_18_method_155_code, 2, none, none)
abbrev M_Preconditions_checkIndex : am_M := (⟨"jdk/internal/util/Preconditions", "checkIndex", "(IILjava/util/function/BiFunction;)I"⟩, prog_23_method_11_code, 3, (some FieldType.int), none)
abbrev M_StringUTF16_charAt : am_M := (⟨"java/lang/StringUTF16", "charAt", "([BI)C"⟩, prog_20_method_83_code, 2, (some FieldType.char), none)
abbrev M_StringUTF16_checkIndex : am_M := (⟨"java/lang/StringUTF16", "checkIndex", "(I[B)V"⟩, prog_20_method_91_code, 2, none, none)
abbrev M_StringUTF16_length : am_M := (⟨"java/lang/StringUTF16", "length", "([B)I"⟩, prog_20_method_6_code, 1, (some FieldType.int), none)
abbrev M_StringUTF16_getChar : am_M := (⟨"java/lang/StringUTF16", "getChar", "([BI)C"⟩, prog_20_method_5_code, 2, (some FieldType.char), none)
abbrev M_Tokens_isWordAt : am_M := (⟨"MovedSpan$Tokens", "isWordAt", "(I[BII)Z"⟩, prog_10_method_9_code, 6, (some FieldType.boolean), none)
abbrev M_Tokens_add : am_M := (⟨"MovedSpan$Tokens", "add", "(III)V"⟩, prog_10_method_3_code, 4, none, none)
abbrev M_Tokens_valueOf : am_M := (⟨"MovedSpan$Tokens", "valueOf", "([BII)I"⟩, prog_10_method_7_code, 5, (some FieldType.int), none)
abbrev M_String_indexOf : am_M := (⟨"java/lang/String", "indexOf", "(I)I"⟩, prog_18_method_79_code, 2, (some FieldType.int), none)
abbrev M_String_indexOf_III : am_M := (⟨"java/lang/String", "indexOf", "(II)I"⟩, prog_18_method_80_code, 3, (some FieldType.int), none)
abbrev M_StringLatin1_indexOf : am_M := (⟨"java/lang/StringLatin1", "indexOf", "([BIII)I"⟩, prog_19_method_22_code, 4, (some FieldType.int), none)
abbrev M_StringLatin1_canEncode : am_M := (⟨"java/lang/StringLatin1", "canEncode", "(I)Z"⟩, prog_19_method_4_code, 1, (some FieldType.boolean), none)
abbrev M_Math_max : am_M := (⟨"java/lang/Math", "max", "(II)I"⟩, prog_17_method_65_code, 2, (some FieldType.int), none)
abbrev M_Math_min : am_M := (⟨"java/lang/Math", "min", "(II)I"⟩, prog_17_method_69_code, 2, (some FieldType.int), none)
abbrev M_StringLatin1_indexOfChar : am_M := (⟨"java/lang/StringLatin1", "indexOfChar", "([BIII)I"⟩, prog_19_method_23_code, 6, (some FieldType.int), none)
abbrev M_StringUTF16_indexOf : am_M := (⟨"java/lang/StringUTF16", "indexOf", "([BIII)I"⟩, prog_20_method_40_code, 4, (some FieldType.int), none)
abbrev M_StringUTF16_indexOfChar : am_M := (⟨"java/lang/StringUTF16", "indexOfChar", "([BIII)I"⟩, prog_20_method_47_code, 4, (some FieldType.int), none)
abbrev M_StringUTF16_checkBoundsBeginEnd : am_M := (⟨"java/lang/StringUTF16", "checkBoundsBeginEnd", "(II[B)V"⟩, prog_20_method_93_code, 3, none, none)
abbrev M_String_checkBoundsBeginEnd : am_M := (⟨"java/lang/String", "checkBoundsBeginEnd", "(III)V"⟩, prog_18_method_158_code, 3, none, none)
abbrev M_Preconditions_checkFromToIndex : am_M := (⟨"jdk/internal/util/Preconditions", "checkFromToIndex", "(IIILjava/util/function/BiFunction;)I"⟩, prog_23_method_12_code, 4, (some FieldType.int), none)
abbrev M_StringUTF16_indexOfCharUnsafe : am_M := (⟨"java/lang/StringUTF16", "indexOfCharUnsafe", "([BIII)I"⟩, prog_20_method_48_code, 5, (some FieldType.int), none)
abbrev M_StringUTF16_indexOfSupplementary : am_M := (⟨"java/lang/StringUTF16", "indexOfSupplementary", "([BIII)I"⟩, prog_20_method_49_code, 7, (some FieldType.int), none)
abbrev M_Character_isValidCodePoint : am_M := (⟨"java/lang/Character", "isValidCodePoint", "(I)Z"⟩, prog_15_method_11_code, 2, (some FieldType.boolean), none)
abbrev M_Character_highSurrogate : am_M := (⟨"java/lang/Character", "highSurrogate", "(I)C"⟩, prog_15_method_28_code, 1, (some FieldType.char), none)
abbrev M_Character_lowSurrogate : am_M := (⟨"java/lang/Character", "lowSurrogate", "(I)C"⟩, prog_15_method_29_code, 1, (some FieldType.char), none)
abbrev M_River_clear : am_M := (⟨"MovedSpan$River", "clear", "()V"⟩, prog_7_method_2_code, 1, none, none)
abbrev M_Arrays_fill : am_M := (⟨"java/util/Arrays", "fill", "([II)V"⟩, prog_22_method_103_code, 4, none, none)
abbrev M_Law_clear : am_M := (⟨"MovedSpan$Law", "clear", "()V"⟩, prog_4_method_2_code, 1, none, none)
abbrev M_Reader_readHead : am_M := (⟨"MovedSpan$Reader", "readHead", "()V"⟩, prog_6_method_3_code, 1, none, none)
abbrev M_Reader_expect : am_M := (⟨"MovedSpan$Reader", "expect", "(I)V"⟩, prog_6_method_19_code, 2, none, none)
abbrev M_Reader_take : am_M := (⟨"MovedSpan$Reader", "take", "(I)Z"⟩, prog_6_method_18_code, 2, (some FieldType.boolean), none)
abbrev M_Reader_kind : am_M := (⟨"MovedSpan$Reader", "kind", "()I"⟩, prog_6_method_17_code, 1, (some FieldType.int), none)
abbrev M_Reader_blame : am_M := (⟨"MovedSpan$Reader", "blame", "(I)V"⟩, prog_6_method_21_code, 2, none, none)
abbrev M_Reader_readNumber : am_M := (⟨"MovedSpan$Reader", "readNumber", "(II)I"⟩, prog_6_method_20_code, 4, (some FieldType.int), none)
abbrev M_Reader_readLine : am_M := (⟨"MovedSpan$Reader", "readLine", "()V"⟩, prog_6_method_4_code, 1, none, none)
abbrev M_Reader_readSpan : am_M := (⟨"MovedSpan$Reader", "readSpan", "()V"⟩, prog_6_method_5_code, 2, none, none)
abbrev M_Reader_readPerson : am_M := (⟨"MovedSpan$Reader", "readPerson", "()V"⟩, prog_6_method_6_code, 3, none, none)
abbrev M_Reader_readSpot : am_M := (⟨"MovedSpan$Reader", "readSpot", "()I"⟩, prog_6_method_7_code, 2, (some FieldType.int), none)
abbrev M_Reader_beginLaw : am_M := (⟨"MovedSpan$Reader", "beginLaw", "(LMovedSpan$Law;)V"⟩, prog_6_method_8_code, 2, none, none)
abbrev M_Reader_readTruth : am_M := (⟨"MovedSpan$Reader", "readTruth", "(I)V"⟩, prog_6_method_9_code, 3, none, none)
abbrev M_Reader_readBoth : am_M := (⟨"MovedSpan$Reader", "readBoth", "(I)V"⟩, prog_6_method_10_code, 3, none, none)
abbrev M_Reader_readUnit : am_M := (⟨"MovedSpan$Reader", "readUnit", "(I)V"⟩, prog_6_method_11_code, 4, none, none)
abbrev M_Law_put : am_M := (⟨"MovedSpan$Law", "put", "(I)V"⟩, prog_4_method_3_code, 2, none, none)
abbrev M_Reader_readSum : am_M := (⟨"MovedSpan$Reader", "readSum", "(I)V"⟩, prog_6_method_13_code, 4, none, none)
abbrev M_Reader_readTerm : am_M := (⟨"MovedSpan$Reader", "readTerm", "(I)V"⟩, prog_6_method_14_code, 3, none, none)
abbrev M_Reader_readAtom : am_M := (⟨"MovedSpan$Reader", "readAtom", "(I)V"⟩, prog_6_method_15_code, 4, none, none)
abbrev M_Reader_askedBy : am_M := (⟨"MovedSpan$Reader", "askedBy", "(I)I"⟩, prog_6_method_16_code, 2, (some FieldType.int), none)
abbrev M_Reader_comparing : am_M := (⟨"MovedSpan$Reader", "comparing", "()I"⟩, prog_6_method_12_code, 1, (some FieldType.int), none)
abbrev M_River_fillRows : am_M := (⟨"MovedSpan$River", "fillRows", "(LMovedSpan$Law;LMovedSpan$Law;)V"⟩, prog_7_method_12_code, 9, none, none)
abbrev M_River_row : am_M := (⟨"MovedSpan$River", "row", "(IIZ)I"⟩, prog_7_method_11_code, 3, (some FieldType.int), none)
abbrev M_River_walkable : am_M := (⟨"MovedSpan$River", "walkable", "(LMovedSpan$Law;III)I"⟩, prog_7_method_13_code, 7, (some FieldType.int), none)
abbrev M_Law_ask : am_M := (⟨"MovedSpan$Law", "ask", "(IIIIII)V"⟩, prog_4_method_4_code, 7, none, none)
abbrev M_Law_holds : am_M := (⟨"MovedSpan$Law", "holds", "()Z"⟩, prog_4_method_5_code, 5, (some FieldType.boolean), none)
abbrev M_Law_join : am_M := (⟨"MovedSpan$Law", "join", "(III)I"⟩, prog_4_method_6_code, 3, (some FieldType.int), none)
abbrev M_Law_kept : am_M := (⟨"MovedSpan$Law", "kept", "(J)I"⟩, prog_4_method_7_code, 2, (some FieldType.int), none)
abbrev M_Math_min_JJJ : am_M := (⟨"java/lang/Math", "min", "(JJ)J"⟩, prog_17_method_70_code, 4, (some FieldType.long), none)
abbrev M_Math_max_JJJ : am_M := (⟨"java/lang/Math", "max", "(JJ)J"⟩, prog_17_method_66_code, 4, (some FieldType.long), none)
abbrev M_River_serving : am_M := (⟨"MovedSpan$River", "serving", "(LMovedSpan$Law;III)I"⟩, prog_7_method_14_code, 7, (some FieldType.int), none)
abbrev M_River_copyFrom : am_M := (⟨"MovedSpan$River", "copyFrom", "(LMovedSpan$River;)V"⟩, prog_7_method_3_code, 2, none, none)
abbrev M_State_begin : am_M := (⟨"MovedSpan$State", "begin", "(LMovedSpan$River;)V"⟩, prog_9_method_3_code, 2, none, none)
abbrev M_State_markDone : am_M := (⟨"MovedSpan$State", "markDone", "(LMovedSpan$River;)V"⟩, prog_9_method_4_code, 3, none, none)
abbrev M_Past_forget : am_M := (⟨"MovedSpan$Past", "forget", "()V"⟩, prog_5_method_2_code, 1, none, none)
abbrev M_Weeks_forget : am_M := (⟨"MovedSpan$Weeks", "forget", "()V"⟩, prog_12_method_2_code, 1, none, none)
abbrev M_Top_fault : am_M := (⟨"MovedSpan", "fault", "(I)I"⟩, prog_1_method_4_code, 2, (some FieldType.int), none)
abbrev M_Top_span : am_M := (⟨"MovedSpan", "span", "(I)I"⟩, prog_1_method_5_code, 2, (some FieldType.int), none)
abbrev M_River_hourOfWeek : am_M := (⟨"MovedSpan$River", "hourOfWeek", "(I)I"⟩, prog_7_method_8_code, 2, (some FieldType.int), none)
abbrev M_Top_person : am_M := (⟨"MovedSpan", "person", "(II)I"⟩, prog_1_method_6_code, 3, (some FieldType.int), none)
abbrev M_River_hasPerson : am_M := (⟨"MovedSpan$River", "hasPerson", "(I)Z"⟩, prog_7_method_4_code, 2, (some FieldType.boolean), none)
abbrev M_Top_why : am_M := (⟨"MovedSpan", "why", "(II)I"⟩, prog_1_method_7_code, 3, (some FieldType.int), none)
abbrev M_State_hindrance : am_M := (⟨"MovedSpan$State", "hindrance", "(LMovedSpan$River;II)I"⟩, prog_9_method_7_code, 5, (some FieldType.int), none)
abbrev M_State_lies : am_M := (⟨"MovedSpan$State", "lies", "(LMovedSpan$River;)I"⟩, prog_9_method_5_code, 2, (some FieldType.int), none)
abbrev M_River_hindrance : am_M := (⟨"MovedSpan$River", "hindrance", "(IIII)I"⟩, prog_7_method_15_code, 5, (some FieldType.int), none)
abbrev M_Top_hasBit : am_M := (⟨"MovedSpan", "hasBit", "(II)Z"⟩, prog_1_method_45_code, 2, (some FieldType.boolean), none)
abbrev M_Top_act : am_M := (⟨"MovedSpan", "act", "(II)I"⟩, prog_1_method_8_code, 4, (some FieldType.int), none)
abbrev M_Top_willChange : am_M := (⟨"MovedSpan", "willChange", "()V"⟩, prog_1_method_43_code, 1, none, none)
abbrev M_Past_keep : am_M := (⟨"MovedSpan$Past", "keep", "(LMovedSpan$State;)V"⟩, prog_5_method_3_code, 2, none, none)
abbrev M_State_copyFrom : am_M := (⟨"MovedSpan$State", "copyFrom", "(LMovedSpan$State;)V"⟩, prog_9_method_2_code, 2, none, none)
abbrev M_River_moved : am_M := (⟨"MovedSpan$River", "moved", "(III)I"⟩, prog_7_method_16_code, 3, (some FieldType.int), none)
abbrev M_Top_tell : am_M := (⟨"MovedSpan", "tell", "(II)I"⟩, prog_1_method_9_code, 4, (some FieldType.int), none)
abbrev M_River_hasHour : am_M := (⟨"MovedSpan$River", "hasHour", "(I)Z"⟩, prog_7_method_7_code, 2, (some FieldType.boolean), none)
abbrev M_River_hasGap : am_M := (⟨"MovedSpan$River", "hasGap", "(I)Z"⟩, prog_7_method_6_code, 2, (some FieldType.boolean), none)
abbrev M_Top_fog : am_M := (⟨"MovedSpan", "fog", "(I)I"⟩, prog_1_method_10_code, 3, (some FieldType.int), none)
abbrev M_Top_hours : am_M := (⟨"MovedSpan", "hours", "(I)I"⟩, prog_1_method_11_code, 4, (some FieldType.int), none)
abbrev M_Integer_bitCount : am_M := (⟨"java/lang/Integer", "bitCount", "(I)I"⟩, prog_16_method_49_code, 1, (some FieldType.int), none)
abbrev M_State_passHour : am_M := (⟨"MovedSpan$State", "passHour", "(LMovedSpan$River;)V"⟩, prog_9_method_8_code, 4, none, none)
abbrev M_Top_undo : am_M := (⟨"MovedSpan", "undo", "(I)I"⟩, prog_1_method_12_code, 2, (some FieldType.int), none)
abbrev M_Past_back : am_M := (⟨"MovedSpan$Past", "back", "(I)LMovedSpan$State;"⟩, prog_5_method_4_code, 2, (some (FieldType.object "MovedSpan$State")), none)
abbrev M_Top_judge : am_M := (⟨"MovedSpan", "judge", "(II)I"⟩, prog_1_method_13_code, 5, (some FieldType.int), none)
abbrev M_Top_isTray : am_M := (⟨"MovedSpan", "isTray", "(I)Z"⟩, prog_1_method_41_code, 1, (some FieldType.boolean), none)
abbrev M_State_doAll : am_M := (⟨"MovedSpan$State", "doAll", "(LMovedSpan$River;LMovedSpan$Tray;)I"⟩, prog_9_method_12_code, 4, (some FieldType.int), none)
abbrev M_Tray_at : am_M := (⟨"MovedSpan$Tray", "at", "(I)J"⟩, prog_11_method_3_code, 2, (some FieldType.long), none)
abbrev M_State_doDeed : am_M := (⟨"MovedSpan$State", "doDeed", "(LMovedSpan$River;J)I"⟩, prog_9_method_9_code, 4, (some FieldType.int), none)
abbrev M_State_tellAct : am_M := (⟨"MovedSpan$State", "tellAct", "(LMovedSpan$River;II)I"⟩, prog_9_method_10_code, 5, (some FieldType.int), none)
abbrev M_State_tellWeek : am_M := (⟨"MovedSpan$State", "tellWeek", "(LMovedSpan$River;II)I"⟩, prog_9_method_11_code, 4, (some FieldType.int), none)
abbrev M_Top_perform : am_M := (⟨"MovedSpan", "perform", "(I)I"⟩, prog_1_method_14_code, 3, (some FieldType.int), none)
abbrev M_Top_becomeTrial : am_M := (⟨"MovedSpan", "becomeTrial", "(I)V"⟩, prog_1_method_44_code, 2, none, none)
abbrev M_Top_year : am_M := (⟨"MovedSpan", "year", "(II)I"⟩, prog_1_method_15_code, 4, (some FieldType.int), none)
abbrev M_State_doYear : am_M := (⟨"MovedSpan$State", "doYear", "(LMovedSpan$River;II)I"⟩, prog_9_method_13_code, 10, (some FieldType.int), none)
abbrev M_State_drawn : am_M := (⟨"MovedSpan$State", "drawn", "(I)I"⟩, prog_9_method_14_code, 1, (some FieldType.int), none)
abbrev M_Top_soonest : am_M := (⟨"MovedSpan", "soonest", "(II)I"⟩, prog_1_method_16_code, 3, (some FieldType.int), none)
abbrev M_River_hasSpot : am_M := (⟨"MovedSpan$River", "hasSpot", "(I)Z"⟩, prog_7_method_5_code, 2, (some FieldType.boolean), none)
abbrev M_Ahead_hoursTo : am_M := (⟨"MovedSpan$Ahead", "hoursTo", "(II)I"⟩, prog_2_method_4_code, 3, (some FieldType.int), none)
abbrev M_Ahead_hoursFrom : am_M := (⟨"MovedSpan$Ahead", "hoursFrom", "(III[III)I"⟩, prog_2_method_5_code, 13, (some FieldType.int), none)
abbrev M_River_spread : am_M := (⟨"MovedSpan$River", "spread", "(III)I"⟩, prog_7_method_17_code, 4, (some FieldType.int), none)
abbrev M_River_joined : am_M := (⟨"MovedSpan$River", "joined", "(III)I"⟩, prog_7_method_19_code, 5, (some FieldType.int), none)
abbrev M_Top_way : am_M := (⟨"MovedSpan", "way", "(III)I"⟩, prog_1_method_17_code, 4, (some FieldType.int), none)
abbrev M_Ahead_findWay : am_M := (⟨"MovedSpan$Ahead", "findWay", "(II)I"⟩, prog_2_method_8_code, 6, (some FieldType.int), none)
abbrev M_Ahead_rowIn : am_M := (⟨"MovedSpan$Ahead", "rowIn", "(II)I"⟩, prog_2_method_2_code, 3, (some FieldType.int), none)
abbrev M_Ahead_liesIn : am_M := (⟨"MovedSpan$Ahead", "liesIn", "(I)I"⟩, prog_2_method_3_code, 2, (some FieldType.int), none)
abbrev M_River_gather : am_M := (⟨"MovedSpan$River", "gather", "(III)I"⟩, prog_7_method_18_code, 4, (some FieldType.int), none)
abbrev M_Ahead_firstActInto : am_M := (⟨"MovedSpan$Ahead", "firstActInto", "(IIII)I"⟩, prog_2_method_10_code, 6, (some FieldType.int), none)
abbrev M_Ahead_actAt : am_M := (⟨"MovedSpan$Ahead", "actAt", "(I)I"⟩, prog_2_method_9_code, 2, (some FieldType.int), none)
abbrev M_Top_ways : am_M := (⟨"MovedSpan", "ways", "(III)J"⟩, prog_1_method_18_code, 4, (some FieldType.long), none)
abbrev M_Ahead_countWays : am_M := (⟨"MovedSpan$Ahead", "countWays", "(III)J"⟩, prog_2_method_11_code, 6, (some FieldType.long), none)
abbrev M_Arrays_fill_JJV : am_M := (⟨"java/util/Arrays", "fill", "([JJ)V"⟩, prog_22_method_101_code, 5, none, none)
abbrev M_Ahead_spreadCount : am_M := (⟨"MovedSpan$Ahead", "spreadCount", "(III)V"⟩, prog_2_method_12_code, 5, none, none)
abbrev M_Top_reach : am_M := (⟨"MovedSpan", "reach", "(II)I"⟩, prog_1_method_19_code, 3, (some FieldType.int), none)
abbrev M_Ahead_spotsIn : am_M := (⟨"MovedSpan$Ahead", "spotsIn", "(II)I"⟩, prog_2_method_6_code, 5, (some FieldType.int), none)
abbrev M_Top_meet : am_M := (⟨"MovedSpan", "meet", "(II)I"⟩, prog_1_method_20_code, 3, (some FieldType.int), none)
abbrev M_Ahead_hoursToMeet : am_M := (⟨"MovedSpan$Ahead", "hoursToMeet", "(II)I"⟩, prog_2_method_7_code, 6, (some FieldType.int), none)
abbrev M_Top_meetAt : am_M := (⟨"MovedSpan", "meetAt", "(II)I"⟩, prog_1_method_21_code, 4, (some FieldType.int), none)
abbrev M_Integer_numberOfTrailingZeros : am_M := (⟨"java/lang/Integer", "numberOfTrailingZeros", "(I)I"⟩, prog_16_method_48_code, 2, (some FieldType.int), none)
abbrev M_Top_inTime : am_M := (⟨"MovedSpan", "inTime", "()I"⟩, prog_1_method_22_code, 1, (some FieldType.int), none)
abbrev M_Weeks_doneInTime : am_M := (⟨"MovedSpan$Weeks", "doneInTime", "([I)I"⟩, prog_12_method_7_code, 4, (some FieldType.int), none)
abbrev M_Weeks_hasErrand : am_M := (⟨"MovedSpan$Weeks", "hasErrand", "(I)Z"⟩, prog_12_method_3_code, 2, (some FieldType.boolean), none)
abbrev M_Weeks_isDone : am_M := (⟨"MovedSpan$Weeks", "isDone", "(I)Z"⟩, prog_12_method_4_code, 2, (some FieldType.boolean), none)
abbrev M_Weeks_comes : am_M := (⟨"MovedSpan$Weeks", "comes", "(I[I)Z"⟩, prog_12_method_6_code, 3, (some FieldType.boolean), none)
abbrev M_Weeks_hoursLeft : am_M := (⟨"MovedSpan$Weeks", "hoursLeft", "(I)I"⟩, prog_12_method_5_code, 2, (some FieldType.int), none)
abbrev M_Top_spare : am_M := (⟨"MovedSpan", "spare", "(I)I"⟩, prog_1_method_23_code, 2, (some FieldType.int), none)
abbrev M_Weeks_hoursToSpare : am_M := (⟨"MovedSpan$Weeks", "hoursToSpare", "(I)I"⟩, prog_12_method_8_code, 5, (some FieldType.int), none)
abbrev M_Top_needs : am_M := (⟨"MovedSpan", "needs", "(I)I"⟩, prog_1_method_24_code, 2, (some FieldType.int), none)
abbrev M_Weeks_hoursNeeded : am_M := (⟨"MovedSpan$Weeks", "hoursNeeded", "(I)I"⟩, prog_12_method_9_code, 4, (some FieldType.int), none)
abbrev M_Weeks_takeWeek : am_M := (⟨"MovedSpan$Weeks", "takeWeek", "()V"⟩, prog_12_method_10_code, 1, none, none)
abbrev M_Top_moves : am_M := (⟨"MovedSpan", "moves", "()I"⟩, prog_1_method_25_code, 1, (some FieldType.int), none)
abbrev M_Weeks_movesOf : am_M := (⟨"MovedSpan$Weeks", "movesOf", "([I)I"⟩, prog_12_method_11_code, 5, (some FieldType.int), none)
abbrev M_Top_best : am_M := (⟨"MovedSpan", "best", "(I)I"⟩, prog_1_method_26_code, 3, (some FieldType.int), none)
abbrev M_Weeks_findBest : am_M := (⟨"MovedSpan$Weeks", "findBest", "()V"⟩, prog_12_method_15_code, 2, none, none)
abbrev M_Weeks_sortPeople : am_M := (⟨"MovedSpan$Weeks", "sortPeople", "()V"⟩, prog_12_method_17_code, 2, none, none)
abbrev M_Weeks_comesByAll : am_M := (⟨"MovedSpan$Weeks", "comesByAll", "(I)Z"⟩, prog_12_method_18_code, 8, (some FieldType.boolean), none)
abbrev M_Weeks_weigh : am_M := (⟨"MovedSpan$Weeks", "weigh", "(I)V"⟩, prog_12_method_26_code, 4, none, none)
abbrev M_Weeks_openComes : am_M := (⟨"MovedSpan$Weeks", "openComes", "(II)Z"⟩, prog_12_method_24_code, 5, (some FieldType.boolean), none)
abbrev M_Weeks_keepBetter : am_M := (⟨"MovedSpan$Weeks", "keepBetter", "(II)V"⟩, prog_12_method_27_code, 3, none, none)
abbrev M_Weeks_trialIsFirst : am_M := (⟨"MovedSpan$Weeks", "trialIsFirst", "()Z"⟩, prog_12_method_28_code, 2, (some FieldType.boolean), none)
abbrev M_Weeks_tryBest : am_M := (⟨"MovedSpan$Weeks", "tryBest", "(I)V"⟩, prog_12_method_19_code, 4, none, none)
abbrev M_Weeks_lost : am_M := (⟨"MovedSpan$Weeks", "lost", "(I)I"⟩, prog_12_method_22_code, 5, (some FieldType.int), none)
abbrev M_Weeks_stepOpen : am_M := (⟨"MovedSpan$Weeks", "stepOpen", "(II)V"⟩, prog_12_method_25_code, 7, none, none)
abbrev M_Top_change : am_M := (⟨"MovedSpan", "change", "()I"⟩, prog_1_method_27_code, 1, (some FieldType.int), none)
abbrev M_Weeks_bestChange : am_M := (⟨"MovedSpan$Weeks", "bestChange", "()I"⟩, prog_12_method_13_code, 6, (some FieldType.int), none)
abbrev M_Weeks_choice : am_M := (⟨"MovedSpan$Weeks", "choice", "(I)I"⟩, prog_12_method_12_code, 2, (some FieldType.int), none)
abbrev M_Top_weeks : am_M := (⟨"MovedSpan", "weeks", "()I"⟩, prog_1_method_28_code, 1, (some FieldType.int), none)
abbrev M_Weeks_countGood : am_M := (⟨"MovedSpan$Weeks", "countGood", "()I"⟩, prog_12_method_16_code, 1, (some FieldType.int), none)
abbrev M_Weeks_tryGood : am_M := (⟨"MovedSpan$Weeks", "tryGood", "(I)V"⟩, prog_12_method_20_code, 4, none, none)
abbrev M_Weeks_allCome : am_M := (⟨"MovedSpan$Weeks", "allCome", "(I)Z"⟩, prog_12_method_23_code, 3, (some FieldType.boolean), none)
abbrev M_Weeks_weeksOf : am_M := (⟨"MovedSpan$Weeks", "weeksOf", "(I)I"⟩, prog_12_method_21_code, 4, (some FieldType.int), none)
abbrev M_Top_shift : am_M := (⟨"MovedSpan", "shift", "()I"⟩, prog_1_method_29_code, 1, (some FieldType.int), none)
abbrev M_Weeks_bestShift : am_M := (⟨"MovedSpan$Weeks", "bestShift", "()I"⟩, prog_12_method_14_code, 5, (some FieldType.int), none)
abbrev M_Top_fits : am_M := (⟨"MovedSpan", "fits", "(III)I"⟩, prog_1_method_30_code, 5, (some FieldType.int), none)
abbrev M_Sightings_take : am_M := (⟨"MovedSpan$Sightings", "take", "(LMovedSpan$Tray;)I"⟩, prog_8_method_2_code, 5, (some FieldType.int), none)
abbrev M_River_allSpots : am_M := (⟨"MovedSpan$River", "allSpots", "()I"⟩, prog_7_method_9_code, 1, (some FieldType.int), none)
abbrev M_Sightings_fitting : am_M := (⟨"MovedSpan$Sightings", "fitting", "(II)I"⟩, prog_8_method_4_code, 5, (some FieldType.int), none)
abbrev M_Sightings_firstBreak : am_M := (⟨"MovedSpan$Sightings", "firstBreak", "(I[I)I"⟩, prog_8_method_3_code, 6, (some FieldType.int), none)
abbrev M_Top_surest : am_M := (⟨"MovedSpan", "surest", "(II)I"⟩, prog_1_method_31_code, 4, (some FieldType.int), none)
abbrev M_Sightings_surestHour : am_M := (⟨"MovedSpan$Sightings", "surestHour", "(I)I"⟩, prog_8_method_5_code, 6, (some FieldType.int), none)
abbrev M_Top_odd : am_M := (⟨"MovedSpan", "odd", "(II)I"⟩, prog_1_method_32_code, 4, (some FieldType.int), none)
abbrev M_Top_chance : am_M := (⟨"MovedSpan", "chance", "(IIII)J"⟩, prog_1_method_33_code, 11, (some FieldType.long), none)
abbrev M_Chances_outOfPower : am_M := (⟨"MovedSpan$Chances", "outOfPower", "(III)J"⟩, prog_3_method_4_code, 8, (some FieldType.long), none)
abbrev M_Chances_weighed : am_M := (⟨"MovedSpan$Chances", "weighed", "(III)J"⟩, prog_3_method_5_code, 8, (some FieldType.long), none)
abbrev M_Chances_likeliest : am_M := (⟨"MovedSpan$Chances", "likeliest", "(III)J"⟩, prog_3_method_6_code, 7, (some FieldType.long), none)
abbrev M_Chances_power : am_M := (⟨"MovedSpan$Chances", "power", "(I)J"⟩, prog_3_method_2_code, 4, (some FieldType.long), none)
abbrev M_Chances_sharedDivisor : am_M := (⟨"MovedSpan$Chances", "sharedDivisor", "(JJ)J"⟩, prog_3_method_3_code, 7, (some FieldType.long), none)
abbrev M_Top_likely : am_M := (⟨"MovedSpan", "likely", "(III)I"⟩, prog_1_method_34_code, 5, (some FieldType.int), none)
abbrev M_Top_numbers : am_M := (⟨"MovedSpan", "numbers", "(III)I"⟩, prog_1_method_35_code, 4, (some FieldType.int), none)
abbrev M_Tray_empty : am_M := (⟨"MovedSpan$Tray", "empty", "(II)V"⟩, prog_11_method_2_code, 3, none, none)
abbrev M_Top_write : am_M := (⟨"MovedSpan", "write", "(IIJ)J"⟩, prog_1_method_36_code, 5, (some FieldType.long), none)
abbrev M_Tray_put : am_M := (⟨"MovedSpan$Tray", "put", "(IJ)J"⟩, prog_11_method_4_code, 4, (some FieldType.long), none)
abbrev M_Tray_cut : am_M := (⟨"MovedSpan$Tray", "cut", "(J)J"⟩, prog_11_method_5_code, 3, (some FieldType.long), none)
abbrev M_Top_lists : am_M := (⟨"MovedSpan", "lists", "(III)I"⟩, prog_1_method_37_code, 7, (some FieldType.int), none)
abbrev M_Top_image : am_M := (⟨"MovedSpan", "image", "(I)I"⟩, prog_1_method_38_code, 2, (some FieldType.int), none)
abbrev M_Top_restore : am_M := (⟨"MovedSpan", "restore", "(I)I"⟩, prog_1_method_39_code, 2, (some FieldType.int), none)
abbrev M_Top_count : am_M := (⟨"MovedSpan", "count", "(I)I"⟩, prog_1_method_40_code, 2, (some FieldType.int), none)
abbrev M_River_withErrands : am_M := (⟨"MovedSpan$River", "withErrands", "()I"⟩, prog_7_method_10_code, 3, (some FieldType.int), none)
abbrev M_State_onSpan : am_M := (⟨"MovedSpan$State", "onSpan", "(LMovedSpan$River;)I"⟩, prog_9_method_6_code, 4, (some FieldType.int), none)
abbrev M_Mod_init : am_M := (⟨"MovedSpanModel", "<init>", "()V"⟩, prog_14_method_3_code, 1, none, none)
abbrev M_Mod_plain : am_M := (⟨"MovedSpanModel", "plain", "([I)V"⟩, prog_14_method_4_code, 2, none, none)
abbrev M_Mod_feed : am_M := (⟨"MovedSpanModel", "feed", "(IIIII)I"⟩, prog_14_method_5_code, 8, (some FieldType.int), none)
abbrev M_Mod_river : am_M := (⟨"MovedSpanModel", "river", "(I)I"⟩, prog_14_method_32_code, 3, (some FieldType.int), none)
abbrev M_Mod_within : am_M := (⟨"MovedSpanModel", "within", "(JJJ)Z"⟩, prog_14_method_2_code, 6, (some FieldType.boolean), none)
abbrev M_Mod_next : am_M := (⟨"MovedSpanModel", "next", "()V"⟩, prog_14_method_10_code, 2, none, none)
abbrev M_Mod_see : am_M := (⟨"MovedSpanModel", "see", "(I)I"⟩, prog_14_method_6_code, 2, (some FieldType.int), none)
abbrev M_Mod_isSmall : am_M := (⟨"MovedSpanModel", "isSmall", "(I)Z"⟩, prog_14_method_7_code, 1, (some FieldType.boolean), none)
abbrev M_Mod_keyAt : am_M := (⟨"MovedSpanModel", "keyAt", "()I"⟩, prog_14_method_9_code, 4, (some FieldType.int), none)
abbrev M_Mod_isDigit : am_M := (⟨"MovedSpanModel", "isDigit", "(I)Z"⟩, prog_14_method_8_code, 1, (some FieldType.boolean), none)
abbrev M_Mod_eats : am_M := (⟨"MovedSpanModel", "eats", "(I)Z"⟩, prog_14_method_13_code, 2, (some FieldType.boolean), none)
abbrev M_Mod_is : am_M := (⟨"MovedSpanModel", "is", "(I)Z"⟩, prog_14_method_12_code, 2, (some FieldType.boolean), none)
abbrev M_Mod_fails : am_M := (⟨"MovedSpanModel", "fails", "(I)V"⟩, prog_14_method_11_code, 2, none, none)
abbrev M_Mod_takes : am_M := (⟨"MovedSpanModel", "takes", "(II)I"⟩, prog_14_method_14_code, 4, (some FieldType.int), none)
abbrev M_Mod_ends : am_M := (⟨"MovedSpanModel", "ends", "()V"⟩, prog_14_method_31_code, 1, none, none)
abbrev M_Mod_readLine : am_M := (⟨"MovedSpanModel", "readLine", "()V"⟩, prog_14_method_30_code, 1, none, none)
abbrev M_Mod_readSpan : am_M := (⟨"MovedSpanModel", "readSpan", "()V"⟩, prog_14_method_25_code, 3, none, none)
abbrev M_Mod_readPerson : am_M := (⟨"MovedSpanModel", "readPerson", "()V"⟩, prog_14_method_28_code, 2, none, none)
abbrev M_Mod_readSpot : am_M := (⟨"MovedSpanModel", "readSpot", "()I"⟩, prog_14_method_26_code, 3, (some FieldType.int), none)
abbrev M_Mod_readFlag : am_M := (⟨"MovedSpanModel", "readFlag", "(I)Z"⟩, prog_14_method_27_code, 4, (some FieldType.boolean), none)
abbrev M_Mod_readLaw : am_M := (⟨"MovedSpanModel", "readLaw", "(I)V"⟩, prog_14_method_29_code, 3, none, none)
abbrev M_Mod_readTruth : am_M := (⟨"MovedSpanModel", "readTruth", "(I)V"⟩, prog_14_method_24_code, 2, none, none)
abbrev M_Mod_readBoth : am_M := (⟨"MovedSpanModel", "readBoth", "(I)V"⟩, prog_14_method_23_code, 2, none, none)
abbrev M_Mod_readUnit : am_M := (⟨"MovedSpanModel", "readUnit", "(I)V"⟩, prog_14_method_22_code, 3, none, none)
abbrev M_Mod_goesIn : am_M := (⟨"MovedSpanModel", "goesIn", "(I)Z"⟩, prog_14_method_18_code, 2, (some FieldType.boolean), none)
abbrev M_Mod_codes : am_M := (⟨"MovedSpanModel", "codes", "(I)V"⟩, prog_14_method_17_code, 2, none, none)
abbrev M_Mod_readSum : am_M := (⟨"MovedSpanModel", "readSum", "(I)V"⟩, prog_14_method_21_code, 3, none, none)
abbrev M_Mod_readTerm : am_M := (⟨"MovedSpanModel", "readTerm", "(I)V"⟩, prog_14_method_20_code, 2, none, none)
abbrev M_Mod_readAtom : am_M := (⟨"MovedSpanModel", "readAtom", "(I)V"⟩, prog_14_method_19_code, 2, none, none)
abbrev M_Mod_wordOf : am_M := (⟨"MovedSpanModel", "wordOf", "(I)I"⟩, prog_14_method_16_code, 2, (some FieldType.int), none)
abbrev M_Mod_doesErrands : am_M := (⟨"MovedSpanModel", "doesErrands", "()I"⟩, prog_14_method_50_code, 3, (some FieldType.int), none)
abbrev M_Mod_isIn : am_M := (⟨"MovedSpanModel", "isIn", "(JI)Z"⟩, prog_14_method_15_code, 3, (some FieldType.boolean), none)
abbrev M_Mod_fault : am_M := (⟨"MovedSpanModel", "fault", "(I)I"⟩, prog_14_method_33_code, 2, (some FieldType.int), none)
abbrev M_Mod_span : am_M := (⟨"MovedSpanModel", "span", "(I)I"⟩, prog_14_method_44_code, 2, (some FieldType.int), none)
abbrev M_Mod_spanIn : am_M := (⟨"MovedSpanModel", "spanIn", "(I)I"⟩, prog_14_method_37_code, 2, (some FieldType.int), none)
abbrev M_Mod_person : am_M := (⟨"MovedSpanModel", "person", "(II)I"⟩, prog_14_method_45_code, 3, (some FieldType.int), none)
abbrev M_Mod_isPerson : am_M := (⟨"MovedSpanModel", "isPerson", "(J)Z"⟩, prog_14_method_34_code, 3, (some FieldType.boolean), none)
abbrev M_Mod_why : am_M := (⟨"MovedSpanModel", "why", "(II)I"⟩, prog_14_method_46_code, 3, (some FieldType.int), none)
abbrev M_Mod_whyTold : am_M := (⟨"MovedSpanModel", "whyTold", "(JJ)I"⟩, prog_14_method_43_code, 5, (some FieldType.int), none)
abbrev M_Mod_fogIn : am_M := (⟨"MovedSpanModel", "fogIn", "(I)I"⟩, prog_14_method_38_code, 2, (some FieldType.int), none)
abbrev M_Mod_whyAct : am_M := (⟨"MovedSpanModel", "whyAct", "(IIIII)I"⟩, prog_14_method_42_code, 8, (some FieldType.int), none)
abbrev M_Mod_leads : am_M := (⟨"MovedSpanModel", "leads", "(III)I"⟩, prog_14_method_41_code, 4, (some FieldType.int), none)
abbrev M_Mod_lets : am_M := (⟨"MovedSpanModel", "lets", "(IIIIII)Z"⟩, prog_14_method_40_code, 10, (some FieldType.boolean), none)
abbrev M_Mod_between : am_M := (⟨"MovedSpanModel", "between", "(III)I"⟩, prog_14_method_39_code, 5, (some FieldType.int), none)
abbrev M_Mod_act : am_M := (⟨"MovedSpanModel", "act", "(II)I"⟩, prog_14_method_52_code, 4, (some FieldType.int), none)
abbrev M_Mod_keeps : am_M := (⟨"MovedSpanModel", "keeps", "()V"⟩, prog_14_method_47_code, 2, none, none)
abbrev M_Mod_notes : am_M := (⟨"MovedSpanModel", "notes", "()V"⟩, prog_14_method_49_code, 2, none, none)
abbrev M_Mod_tell : am_M := (⟨"MovedSpanModel", "tell", "(II)I"⟩, prog_14_method_53_code, 3, (some FieldType.int), none)
abbrev M_Mod_fog : am_M := (⟨"MovedSpanModel", "fog", "(I)I"⟩, prog_14_method_54_code, 2, (some FieldType.int), none)
abbrev M_Mod_hours : am_M := (⟨"MovedSpanModel", "hours", "(I)I"⟩, prog_14_method_55_code, 4, (some FieldType.int), none)
abbrev M_Mod_goesHour : am_M := (⟨"MovedSpanModel", "goesHour", "()I"⟩, prog_14_method_51_code, 3, (some FieldType.int), none)
abbrev M_Mod_undo : am_M := (⟨"MovedSpanModel", "undo", "(I)I"⟩, prog_14_method_56_code, 3, (some FieldType.int), none)
abbrev M_Mod_judge : am_M := (⟨"MovedSpanModel", "judge", "(II)I"⟩, prog_14_method_61_code, 7, (some FieldType.int), none)
abbrev M_Mod_noTray : am_M := (⟨"MovedSpanModel", "noTray", "(I)I"⟩, prog_14_method_60_code, 2, (some FieldType.int), none)
abbrev M_Mod_tells : am_M := (⟨"MovedSpanModel", "tells", "(I)I"⟩, prog_14_method_59_code, 3, (some FieldType.int), none)
abbrev M_Mod_whyNot : am_M := (⟨"MovedSpanModel", "whyNot", "(J)I"⟩, prog_14_method_57_code, 3, (some FieldType.int), none)
abbrev M_Mod_does : am_M := (⟨"MovedSpanModel", "does", "(I)V"⟩, prog_14_method_58_code, 2, none, none)
abbrev M_Mod_isAgain : am_M := (⟨"MovedSpanModel", "isAgain", "()V"⟩, prog_14_method_48_code, 2, none, none)
abbrev M_Mod_perform : am_M := (⟨"MovedSpanModel", "perform", "(I)I"⟩, prog_14_method_62_code, 4, (some FieldType.int), none)
abbrev M_Mod_year : am_M := (⟨"MovedSpanModel", "year", "(II)I"⟩, prog_14_method_65_code, 6, (some FieldType.int), none)
abbrev M_Mod_drawn : am_M := (⟨"MovedSpanModel", "drawn", "()I"⟩, prog_14_method_64_code, 3, (some FieldType.int), none)
abbrev M_Mod_draw : am_M := (⟨"MovedSpanModel", "draw", "(I)I"⟩, prog_14_method_63_code, 2, (some FieldType.int), none)
abbrev M_Mod_soonest : am_M := (⟨"MovedSpanModel", "soonest", "(II)I"⟩, prog_14_method_70_code, 3, (some FieldType.int), none)
abbrev M_Mod_isSpot : am_M := (⟨"MovedSpanModel", "isSpot", "(J)Z"⟩, prog_14_method_35_code, 3, (some FieldType.boolean), none)
abbrev M_Mod_soonestOf : am_M := (⟨"MovedSpanModel", "soonestOf", "(II)I"⟩, prog_14_method_69_code, 3, (some FieldType.int), none)
abbrev M_Mod_laysLets : am_M := (⟨"MovedSpanModel", "laysLets", "(I)V"⟩, prog_14_method_66_code, 6, none, none)
abbrev M_Mod_hoursTo : am_M := (⟨"MovedSpanModel", "hoursTo", "(III)I"⟩, prog_14_method_68_code, 6, (some FieldType.int), none)
abbrev M_Mod_goesOn : am_M := (⟨"MovedSpanModel", "goesOn", "(III)I"⟩, prog_14_method_67_code, 9, (some FieldType.int), none)
abbrev M_Mod_way : am_M := (⟨"MovedSpanModel", "way", "(III)I"⟩, prog_14_method_72_code, 5, (some FieldType.int), none)
abbrev M_Mod_laysWay : am_M := (⟨"MovedSpanModel", "laysWay", "(II)I"⟩, prog_14_method_71_code, 7, (some FieldType.int), none)
abbrev M_Mod_ways : am_M := (⟨"MovedSpanModel", "ways", "(III)J"⟩, prog_14_method_73_code, 7, (some FieldType.long), none)
abbrev M_Mod_reach : am_M := (⟨"MovedSpanModel", "reach", "(II)I"⟩, prog_14_method_75_code, 3, (some FieldType.int), none)
abbrev M_Mod_reachOf : am_M := (⟨"MovedSpanModel", "reachOf", "(II)I"⟩, prog_14_method_74_code, 5, (some FieldType.int), none)
abbrev M_Mod_meet : am_M := (⟨"MovedSpanModel", "meet", "(II)I"⟩, prog_14_method_77_code, 3, (some FieldType.int), none)
abbrev M_Mod_meetIn : am_M := (⟨"MovedSpanModel", "meetIn", "(II)I"⟩, prog_14_method_76_code, 4, (some FieldType.int), none)
abbrev M_Mod_meetAt : am_M := (⟨"MovedSpanModel", "meetAt", "(II)I"⟩, prog_14_method_78_code, 6, (some FieldType.int), none)
abbrev M_Mod_inTime : am_M := (⟨"MovedSpanModel", "inTime", "()I"⟩, prog_14_method_82_code, 1, (some FieldType.int), none)
abbrev M_Mod_inTimeSet : am_M := (⟨"MovedSpanModel", "inTimeSet", "()I"⟩, prog_14_method_81_code, 3, (some FieldType.int), none)
abbrev M_Mod_isErrand : am_M := (⟨"MovedSpanModel", "isErrand", "(I)Z"⟩, prog_14_method_79_code, 2, (some FieldType.boolean), none)
abbrev M_Mod_isInTime : am_M := (⟨"MovedSpanModel", "isInTime", "(II)Z"⟩, prog_14_method_80_code, 4, (some FieldType.boolean), none)
abbrev M_Mod_spare : am_M := (⟨"MovedSpanModel", "spare", "(I)I"⟩, prog_14_method_83_code, 4, (some FieldType.int), none)
abbrev M_Mod_needs : am_M := (⟨"MovedSpanModel", "needs", "(I)I"⟩, prog_14_method_84_code, 5, (some FieldType.int), none)
abbrev M_Mod_moves : am_M := (⟨"MovedSpanModel", "moves", "()I"⟩, prog_14_method_93_code, 1, (some FieldType.int), none)
abbrev M_Mod_movesNow : am_M := (⟨"MovedSpanModel", "movesNow", "()I"⟩, prog_14_method_85_code, 3, (some FieldType.int), none)
abbrev M_Mod_best : am_M := (⟨"MovedSpanModel", "best", "(I)I"⟩, prog_14_method_94_code, 2, (some FieldType.int), none)
abbrev M_Mod_laysWeeks : am_M := (⟨"MovedSpanModel", "laysWeeks", "()V"⟩, prog_14_method_92_code, 2, none, none)
abbrev M_Mod_keepsLets : am_M := (⟨"MovedSpanModel", "keepsLets", "()V"⟩, prog_14_method_87_code, 3, none, none)
abbrev M_Mod_goesWeeks : am_M := (⟨"MovedSpanModel", "goesWeeks", "(I)V"⟩, prog_14_method_90_code, 3, none, none)
abbrev M_Mod_laysWeek : am_M := (⟨"MovedSpanModel", "laysWeek", "()V"⟩, prog_14_method_91_code, 4, none, none)
abbrev M_Mod_inTimeMany : am_M := (⟨"MovedSpanModel", "inTimeMany", "()I"⟩, prog_14_method_89_code, 3, (some FieldType.int), none)
abbrev M_Mod_takesLets : am_M := (⟨"MovedSpanModel", "takesLets", "(I)V"⟩, prog_14_method_88_code, 3, none, none)
abbrev M_Mod_errandsMany : am_M := (⟨"MovedSpanModel", "errandsMany", "()I"⟩, prog_14_method_86_code, 3, (some FieldType.int), none)
abbrev M_Mod_weeks : am_M := (⟨"MovedSpanModel", "weeks", "()I"⟩, prog_14_method_95_code, 1, (some FieldType.int), none)
abbrev M_Mod_change : am_M := (⟨"MovedSpanModel", "change", "()I"⟩, prog_14_method_96_code, 7, (some FieldType.int), none)
abbrev M_Mod_shift : am_M := (⟨"MovedSpanModel", "shift", "()I"⟩, prog_14_method_97_code, 5, (some FieldType.int), none)
abbrev M_Mod_fits : am_M := (⟨"MovedSpanModel", "fits", "(III)I"⟩, prog_14_method_101_code, 5, (some FieldType.int), none)
abbrev M_Mod_noSeen : am_M := (⟨"MovedSpanModel", "noSeen", "(II)I"⟩, prog_14_method_98_code, 5, (some FieldType.int), none)
abbrev M_Mod_fitting : am_M := (⟨"MovedSpanModel", "fitting", "(III)I"⟩, prog_14_method_100_code, 7, (some FieldType.int), none)
abbrev M_Mod_oddIn : am_M := (⟨"MovedSpanModel", "oddIn", "(I)I"⟩, prog_14_method_99_code, 5, (some FieldType.int), none)
abbrev M_Mod_surest : am_M := (⟨"MovedSpanModel", "surest", "(II)I"⟩, prog_14_method_102_code, 8, (some FieldType.int), none)
abbrev M_Mod_bitsOf : am_M := (⟨"MovedSpanModel", "bitsOf", "(I)I"⟩, prog_14_method_36_code, 3, (some FieldType.int), none)
abbrev M_Mod_odd : am_M := (⟨"MovedSpanModel", "odd", "(II)I"⟩, prog_14_method_103_code, 4, (some FieldType.int), none)
abbrev M_Mod_chance : am_M := (⟨"MovedSpanModel", "chance", "(IIII)J"⟩, prog_14_method_108_code, 9, (some FieldType.long), none)
abbrev M_Mod_chanceOf : am_M := (⟨"MovedSpanModel", "chanceOf", "(III)J"⟩, prog_14_method_105_code, 9, (some FieldType.long), none)
abbrev M_Mod_bestOn : am_M := (⟨"MovedSpanModel", "bestOn", "(III)J"⟩, prog_14_method_104_code, 8, (some FieldType.long), none)
abbrev M_Mod_tens : am_M := (⟨"MovedSpanModel", "tens", "(I)J"⟩, prog_14_method_106_code, 4, (some FieldType.long), none)
abbrev M_Mod_common : am_M := (⟨"MovedSpanModel", "common", "(JJ)J"⟩, prog_14_method_107_code, 4, (some FieldType.long), none)
abbrev M_Mod_likely : am_M := (⟨"MovedSpanModel", "likely", "(III)I"⟩, prog_14_method_109_code, 5, (some FieldType.int), none)
abbrev M_Mod_numbers : am_M := (⟨"MovedSpanModel", "numbers", "(III)I"⟩, prog_14_method_111_code, 5, (some FieldType.int), none)
abbrev M_Mod_write : am_M := (⟨"MovedSpanModel", "write", "(IIJ)J"⟩, prog_14_method_112_code, 6, (some FieldType.long), none)
abbrev M_Mod_cut : am_M := (⟨"MovedSpanModel", "cut", "(JI)J"⟩, prog_14_method_110_code, 3, (some FieldType.long), none)
abbrev M_Mod_lists : am_M := (⟨"MovedSpanModel", "lists", "(III)I"⟩, prog_14_method_113_code, 8, (some FieldType.int), none)
abbrev M_Mod_image : am_M := (⟨"MovedSpanModel", "image", "(I)I"⟩, prog_14_method_114_code, 3, (some FieldType.int), none)
abbrev M_Mod_restore : am_M := (⟨"MovedSpanModel", "restore", "(I)I"⟩, prog_14_method_115_code, 3, (some FieldType.int), none)
abbrev M_Mod_count : am_M := (⟨"MovedSpanModel", "count", "(I)I"⟩, prog_14_method_118_code, 2, (some FieldType.int), none)
abbrev M_Mod_errandsSet : am_M := (⟨"MovedSpanModel", "errandsSet", "()I"⟩, prog_14_method_116_code, 3, (some FieldType.int), none)
abbrev M_Mod_onSpan : am_M := (⟨"MovedSpanModel", "onSpan", "()I"⟩, prog_14_method_117_code, 3, (some FieldType.int), none)
set_option maxRecDepth 100000 in
theorem In_Lw : Cond.initialized "MovedSpanLaw" ∈ lw_g := am_in 119 (by decide +kernel) rfl
set_option maxRecDepth 100000 in
theorem In_Top : Cond.initialized "MovedSpan" ∈ lw_g := am_in 120 (by decide +kernel) rfl
set_option maxRecDepth 100000 in
theorem In_River : Cond.initialized "MovedSpan$River" ∈ lw_g := am_in 121 (by decide +kernel) rfl
set_option maxRecDepth 100000 in
theorem In_State : Cond.initialized "MovedSpan$State" ∈ lw_g := am_in 122 (by decide +kernel) rfl
set_option maxRecDepth 100000 in
theorem In_Past : Cond.initialized "MovedSpan$Past" ∈ lw_g := am_in 123 (by decide +kernel) rfl
set_option maxRecDepth 100000 in
theorem In_Reader : Cond.initialized "MovedSpan$Reader" ∈ lw_g := am_in 124 (by decide +kernel) rfl
set_option maxRecDepth 100000 in
theorem In_Tokens : Cond.initialized "MovedSpan$Tokens" ∈ lw_g := am_in 125 (by decide +kernel) rfl
set_option maxRecDepth 100000 in
theorem In_Law : Cond.initialized "MovedSpan$Law" ∈ lw_g := am_in 126 (by decide +kernel) rfl
set_option maxRecDepth 100000 in
theorem In_Ahead : Cond.initialized "MovedSpan$Ahead" ∈ lw_g := am_in 127 (by decide +kernel) rfl
set_option maxRecDepth 100000 in
theorem In_Weeks : Cond.initialized "MovedSpan$Weeks" ∈ lw_g := am_in 128 (by decide +kernel) rfl
set_option maxRecDepth 100000 in
theorem In_Sightings : Cond.initialized "MovedSpan$Sightings" ∈ lw_g := am_in 129 (by decide +kernel) rfl
set_option maxRecDepth 100000 in
theorem In_Chances : Cond.initialized "MovedSpan$Chances" ∈ lw_g := am_in 130 (by decide +kernel) rfl
set_option maxRecDepth 100000 in
theorem In_Tray : Cond.initialized "MovedSpan$Tray" ∈ lw_g := am_in 131 (by decide +kernel) rfl
set_option maxRecDepth 100000 in
theorem In_Mod : Cond.initialized "MovedSpanModel" ∈ lw_g := am_in 132 (by decide +kernel) rfl
set_option maxRecDepth 100000 in
theorem In_String : Cond.initialized "java/lang/String" ∈ lw_g := am_in 133 (by decide +kernel) rfl
set_option maxRecDepth 100000 in
theorem In_StringLatin1 : Cond.initialized "java/lang/StringLatin1" ∈ lw_g := am_in 134 (by decide +kernel) rfl
set_option maxRecDepth 100000 in
theorem In_Preconditions : Cond.initialized "jdk/internal/util/Preconditions" ∈ lw_g := am_in 135 (by decide +kernel) rfl
set_option maxRecDepth 100000 in
theorem In_StringUTF16 : Cond.initialized "java/lang/StringUTF16" ∈ lw_g := am_in 136 (by decide +kernel) rfl
set_option maxRecDepth 100000 in
theorem In_Math : Cond.initialized "java/lang/Math" ∈ lw_g := am_in 137 (by decide +kernel) rfl
set_option maxRecDepth 100000 in
theorem In_Character : Cond.initialized "java/lang/Character" ∈ lw_g := am_in 138 (by decide +kernel) rfl
set_option maxRecDepth 100000 in
theorem In_Arrays : Cond.initialized "java/util/Arrays" ∈ lw_g := am_in 139 (by decide +kernel) rfl
set_option maxRecDepth 100000 in
theorem In_System : Cond.initialized "java/lang/System" ∈ lw_g := am_in 140 (by decide +kernel) rfl
set_option maxRecDepth 100000 in
theorem In_Integer : Cond.initialized "java/lang/Integer" ∈ lw_g := am_in 141 (by decide +kernel) rfl
set_option maxRecDepth 100000 in
theorem Y_Top_init : am_Y M_Top_init 0 := ⟨am_in 146 (by decide +kernel) rfl, In_Top, ⟨by decide, by decide⟩, by decide +kernel, by decide⟩
set_option maxRecDepth 100000 in
theorem Vi_Top_init : Cond.instanceMethod M_Top_init.1 ∈ lw_g := am_in 145 (by decide +kernel) rfl
set_option maxRecDepth 100000 in
theorem Oc_code : Cond.code Lib.objectInit ⟨#[0xb1]⟩ 1 none ∈ lw_g := am_in 149 (by decide +kernel) rfl
set_option maxRecDepth 100000 in
theorem Oc_inst : Cond.instanceMethod Lib.objectInit ∈ lw_g := am_in 148 (by decide +kernel) rfl
set_option maxRecDepth 100000 in
theorem Y_River_init : am_Y M_River_init 0 := ⟨am_in 154 (by decide +kernel) rfl, In_River, ⟨by decide, by decide⟩, by decide +kernel, by decide⟩
set_option maxRecDepth 100000 in
theorem Vi_River_init : Cond.instanceMethod M_River_init.1 ∈ lw_g := am_in 153 (by decide +kernel) rfl
set_option maxRecDepth 100000 in
theorem Y_State_init : am_Y M_State_init 0 := ⟨am_in 238 (by decide +kernel) rfl, In_State, ⟨by decide, by decide⟩, by decide +kernel, by decide⟩
set_option maxRecDepth 100000 in
theorem Vi_State_init : Cond.instanceMethod M_State_init.1 ∈ lw_g := am_in 237 (by decide +kernel) rfl
set_option maxRecDepth 100000 in
theorem Y_Past_init : am_Y M_Past_init 0 := ⟨am_in 284 (by decide +kernel) rfl, In_Past, ⟨by decide, by decide⟩, by decide +kernel, by decide⟩
set_option maxRecDepth 100000 in
theorem Vi_Past_init : Cond.instanceMethod M_Past_init.1 ∈ lw_g := am_in 283 (by decide +kernel) rfl
set_option maxRecDepth 100000 in
theorem Y_Reader_init : am_Y M_Reader_init 0 := ⟨am_in 304 (by decide +kernel) rfl, In_Reader, ⟨by decide, by decide⟩, by decide +kernel, by decide⟩
set_option maxRecDepth 100000 in
theorem Vi_Reader_init : Cond.instanceMethod M_Reader_init.1 ∈ lw_g := am_in 303 (by decide +kernel) rfl
set_option maxRecDepth 100000 in
theorem Y_Tokens_init : am_Y M_Tokens_init 0 := ⟨am_in 312 (by decide +kernel) rfl, In_Tokens, ⟨by decide, by decide⟩, by decide +kernel, by decide⟩
set_option maxRecDepth 100000 in
theorem Vi_Tokens_init : Cond.instanceMethod M_Tokens_init.1 ∈ lw_g := am_in 311 (by decide +kernel) rfl
set_option maxRecDepth 100000 in
theorem Y_Law_init : am_Y M_Law_init 1 := ⟨am_in 336 (by decide +kernel) rfl, In_Law, ⟨by decide, by decide⟩, by decide +kernel, by decide⟩
set_option maxRecDepth 100000 in
theorem Vi_Law_init : Cond.instanceMethod M_Law_init.1 ∈ lw_g := am_in 335 (by decide +kernel) rfl
set_option maxRecDepth 100000 in
theorem Y_Ahead_init : am_Y M_Ahead_init 2 := ⟨am_in 395 (by decide +kernel) rfl, In_Ahead, ⟨by decide, by decide⟩, by decide +kernel, by decide⟩
set_option maxRecDepth 100000 in
theorem Vi_Ahead_init : Cond.instanceMethod M_Ahead_init.1 ∈ lw_g := am_in 394 (by decide +kernel) rfl
set_option maxRecDepth 100000 in
theorem Y_Weeks_init : am_Y M_Weeks_init 3 := ⟨am_in 421 (by decide +kernel) rfl, In_Weeks, ⟨by decide, by decide⟩, by decide +kernel, by decide⟩
set_option maxRecDepth 100000 in
theorem Vi_Weeks_init : Cond.instanceMethod M_Weeks_init.1 ∈ lw_g := am_in 420 (by decide +kernel) rfl
set_option maxRecDepth 100000 in
theorem Y_Sightings_init : am_Y M_Sightings_init 2 := ⟨am_in 476 (by decide +kernel) rfl, In_Sightings, ⟨by decide, by decide⟩, by decide +kernel, by decide⟩
set_option maxRecDepth 100000 in
theorem Vi_Sightings_init : Cond.instanceMethod M_Sightings_init.1 ∈ lw_g := am_in 475 (by decide +kernel) rfl
set_option maxRecDepth 100000 in
theorem Y_Chances_init : am_Y M_Chances_init 2 := ⟨am_in 498 (by decide +kernel) rfl, In_Chances, ⟨by decide, by decide⟩, by decide +kernel, by decide⟩
set_option maxRecDepth 100000 in
theorem Vi_Chances_init : Cond.instanceMethod M_Chances_init.1 ∈ lw_g := am_in 497 (by decide +kernel) rfl
set_option maxRecDepth 100000 in
theorem Y_Tray_init : am_Y M_Tray_init 0 := ⟨am_in 516 (by decide +kernel) rfl, In_Tray, ⟨by decide, by decide⟩, by decide +kernel, by decide⟩
set_option maxRecDepth 100000 in
theorem Vi_Tray_init : Cond.instanceMethod M_Tray_init.1 ∈ lw_g := am_in 515 (by decide +kernel) rfl
set_option maxRecDepth 100000 in
theorem Y_Top_feed : am_Y M_Top_feed 5 := ⟨am_in 585 (by decide +kernel) rfl, In_Top, ⟨by decide, by decide⟩, by decide +kernel, by decide⟩
set_option maxRecDepth 100000 in
theorem Vi_Top_feed : Cond.instanceMethod M_Top_feed.1 ∈ lw_g := am_in 583 (by decide +kernel) rfl
set_option maxRecDepth 100000 in
theorem Vs_Top_feed : Cond.selects M_Top_feed.1.cls M_Top_feed.1 M_Top_feed.1 ∈ lw_g := am_in 584 (by decide +kernel) rfl
set_option maxRecDepth 100000 in
theorem Y_Top_putBytes : am_Y M_Top_putBytes 1 := ⟨am_in 589 (by decide +kernel) rfl, In_Top, ⟨by decide, by decide⟩, by decide +kernel, by decide⟩
set_option maxRecDepth 100000 in
theorem Vi_Top_putBytes : Cond.instanceMethod M_Top_putBytes.1 ∈ lw_g := am_in 588 (by decide +kernel) rfl
set_option maxRecDepth 100000 in
theorem Vs_Top_putBytes : Cond.selects M_Top_putBytes.1.cls M_Top_putBytes.1 M_Top_putBytes.1 ∈ lw_g := am_in 0 (by decide +kernel) rfl
set_option maxRecDepth 100000 in
theorem Y_Top_river : am_Y M_Top_river 1 := ⟨am_in 593 (by decide +kernel) rfl, In_Top, ⟨by decide, by decide⟩, by decide +kernel, by decide⟩
set_option maxRecDepth 100000 in
theorem Vi_Top_river : Cond.instanceMethod M_Top_river.1 ∈ lw_g := am_in 591 (by decide +kernel) rfl
set_option maxRecDepth 100000 in
theorem Vs_Top_river : Cond.selects M_Top_river.1.cls M_Top_river.1 M_Top_river.1 ∈ lw_g := am_in 592 (by decide +kernel) rfl
set_option maxRecDepth 100000 in
theorem Y_Reader_read : am_Y M_Reader_read 2 := ⟨am_in 597 (by decide +kernel) rfl, In_Reader, ⟨by decide, by decide⟩, by decide +kernel, by decide⟩
set_option maxRecDepth 100000 in
theorem Vi_Reader_read : Cond.instanceMethod M_Reader_read.1 ∈ lw_g := am_in 595 (by decide +kernel) rfl
set_option maxRecDepth 100000 in
theorem Vs_Reader_read : Cond.selects M_Reader_read.1.cls M_Reader_read.1 M_Reader_read.1 ∈ lw_g := am_in 596 (by decide +kernel) rfl
set_option maxRecDepth 100000 in
theorem Y_Tokens_cut : am_Y M_Tokens_cut 2 := ⟨am_in 601 (by decide +kernel) rfl, In_Tokens, ⟨by decide, by decide⟩, by decide +kernel, by decide⟩
set_option maxRecDepth 100000 in
theorem Vi_Tokens_cut : Cond.instanceMethod M_Tokens_cut.1 ∈ lw_g := am_in 599 (by decide +kernel) rfl
set_option maxRecDepth 100000 in
theorem Vs_Tokens_cut : Cond.selects M_Tokens_cut.1.cls M_Tokens_cut.1 M_Tokens_cut.1 ∈ lw_g := am_in 600 (by decide +kernel) rfl
set_option maxRecDepth 100000 in
theorem Y_Tokens_isLetter : am_Y M_Tokens_isLetter 1 := ⟨am_in 604 (by decide +kernel) rfl, In_Tokens, ⟨by decide, by decide⟩, by decide +kernel, by decide⟩
set_option maxRecDepth 100000 in
theorem St_Tokens_isLetter : Cond.static M_Tokens_isLetter.1 ∈ lw_g := am_in 603 (by decide +kernel) rfl
set_option maxRecDepth 100000 in
theorem Y_Tokens_endOf : am_Y M_Tokens_endOf 4 := ⟨am_in 607 (by decide +kernel) rfl, In_Tokens, ⟨by decide, by decide⟩, by decide +kernel, by decide⟩
set_option maxRecDepth 100000 in
theorem St_Tokens_endOf : Cond.static M_Tokens_endOf.1 ∈ lw_g := am_in 606 (by decide +kernel) rfl
set_option maxRecDepth 100000 in
theorem Y_Tokens_isDigit : am_Y M_Tokens_isDigit 1 := ⟨am_in 610 (by decide +kernel) rfl, In_Tokens, ⟨by decide, by decide⟩, by decide +kernel, by decide⟩
set_option maxRecDepth 100000 in
theorem St_Tokens_isDigit : Cond.static M_Tokens_isDigit.1 ∈ lw_g := am_in 609 (by decide +kernel) rfl
set_option maxRecDepth 100000 in
theorem Y_Tokens_wordKind : am_Y M_Tokens_wordKind 3 := ⟨am_in 613 (by decide +kernel) rfl, In_Tokens, ⟨by decide, by decide⟩, by decide +kernel, by decide⟩
set_option maxRecDepth 100000 in
theorem St_Tokens_wordKind : Cond.static M_Tokens_wordKind.1 ∈ lw_g := am_in 612 (by decide +kernel) rfl
set_option maxRecDepth 100000 in
theorem Y_String_length : am_Y M_String_length 0 := ⟨am_in 618 (by decide +kernel) rfl, In_String, ⟨by decide, by decide⟩, by decide +kernel, by decide⟩
set_option maxRecDepth 100000 in
theorem Vi_String_length : Cond.instanceMethod M_String_length.1 ∈ lw_g := am_in 616 (by decide +kernel) rfl
set_option maxRecDepth 100000 in
theorem Vs_String_length : Cond.selects M_String_length.1.cls M_String_length.1 M_String_length.1 ∈ lw_g := am_in 617 (by decide +kernel) rfl
set_option maxRecDepth 100000 in
theorem Y_String_coder : am_Y M_String_coder 0 := ⟨am_in 622 (by decide +kernel) rfl, In_String, ⟨by decide, by decide⟩, by decide +kernel, by decide⟩
set_option maxRecDepth 100000 in
theorem Vi_String_coder : Cond.instanceMethod M_String_coder.1 ∈ lw_g := am_in 620 (by decide +kernel) rfl
set_option maxRecDepth 100000 in
theorem Vs_String_coder : Cond.selects M_String_coder.1.cls M_String_coder.1 M_String_coder.1 ∈ lw_g := am_in 621 (by decide +kernel) rfl
set_option maxRecDepth 100000 in
theorem Y_String_charAt : am_Y M_String_charAt 1 := ⟨am_in 628 (by decide +kernel) rfl, In_String, ⟨by decide, by decide⟩, by decide +kernel, by decide⟩
set_option maxRecDepth 100000 in
theorem Vi_String_charAt : Cond.instanceMethod M_String_charAt.1 ∈ lw_g := am_in 626 (by decide +kernel) rfl
set_option maxRecDepth 100000 in
theorem Vs_String_charAt : Cond.selects M_String_charAt.1.cls M_String_charAt.1 M_String_charAt.1 ∈ lw_g := am_in 627 (by decide +kernel) rfl
set_option maxRecDepth 100000 in
theorem Y_String_isLatin1 : am_Y M_String_isLatin1 0 := ⟨am_in 632 (by decide +kernel) rfl, In_String, ⟨by decide, by decide⟩, by decide +kernel, by decide⟩
set_option maxRecDepth 100000 in
theorem Vi_String_isLatin1 : Cond.instanceMethod M_String_isLatin1.1 ∈ lw_g := am_in 630 (by decide +kernel) rfl
set_option maxRecDepth 100000 in
theorem Vs_String_isLatin1 : Cond.selects M_String_isLatin1.1.cls M_String_isLatin1.1 M_String_isLatin1.1 ∈ lw_g := am_in 631 (by decide +kernel) rfl
set_option maxRecDepth 100000 in
theorem Y_StringLatin1_charAt : am_Y M_StringLatin1_charAt 2 := ⟨am_in 635 (by decide +kernel) rfl, In_StringLatin1, ⟨by decide, by decide⟩, by decide +kernel, by decide⟩
set_option maxRecDepth 100000 in
theorem St_StringLatin1_charAt : Cond.static M_StringLatin1_charAt.1 ∈ lw_g := am_in 634 (by decide +kernel) rfl
set_option maxRecDepth 100000 in
theorem Y_String_checkIndex : am_Y M_String_checkIndex 2 := ⟨am_in 638 (by decide +kernel) rfl, In_String, ⟨by decide, by decide⟩, by decide +kernel, by decide⟩
set_option maxRecDepth 100000 in
theorem St_String_checkIndex : Cond.static M_String_checkIndex.1 ∈ lw_g := am_in 637 (by decide +kernel) rfl
set_option maxRecDepth 100000 in
theorem Y_Preconditions_checkIndex : am_Y M_Preconditions_checkIndex 3 := ⟨am_in 643 (by decide +kernel) rfl, In_Preconditions, ⟨by decide, by decide⟩, by decide +kernel, by decide⟩
set_option maxRecDepth 100000 in
theorem St_Preconditions_checkIndex : Cond.static M_Preconditions_checkIndex.1 ∈ lw_g := am_in 642 (by decide +kernel) rfl
set_option maxRecDepth 100000 in
theorem Y_StringUTF16_charAt : am_Y M_StringUTF16_charAt 2 := ⟨am_in 646 (by decide +kernel) rfl, In_StringUTF16, ⟨by decide, by decide⟩, by decide +kernel, by decide⟩
set_option maxRecDepth 100000 in
theorem St_StringUTF16_charAt : Cond.static M_StringUTF16_charAt.1 ∈ lw_g := am_in 645 (by decide +kernel) rfl
set_option maxRecDepth 100000 in
theorem Y_StringUTF16_checkIndex : am_Y M_StringUTF16_checkIndex 2 := ⟨am_in 649 (by decide +kernel) rfl, In_StringUTF16, ⟨by decide, by decide⟩, by decide +kernel, by decide⟩
set_option maxRecDepth 100000 in
theorem St_StringUTF16_checkIndex : Cond.static M_StringUTF16_checkIndex.1 ∈ lw_g := am_in 648 (by decide +kernel) rfl
set_option maxRecDepth 100000 in
theorem Y_StringUTF16_length : am_Y M_StringUTF16_length 1 := ⟨am_in 652 (by decide +kernel) rfl, In_StringUTF16, ⟨by decide, by decide⟩, by decide +kernel, by decide⟩
set_option maxRecDepth 100000 in
theorem St_StringUTF16_length : Cond.static M_StringUTF16_length.1 ∈ lw_g := am_in 651 (by decide +kernel) rfl
set_option maxRecDepth 100000 in
theorem Y_StringUTF16_getChar : am_Y M_StringUTF16_getChar 2 := ⟨am_in 656 (by decide +kernel) rfl, In_StringUTF16, ⟨by decide, by decide⟩, by decide +kernel, by decide⟩
set_option maxRecDepth 100000 in
theorem St_StringUTF16_getChar : Cond.static M_StringUTF16_getChar.1 ∈ lw_g := am_in 655 (by decide +kernel) rfl
set_option maxRecDepth 100000 in
theorem Y_Tokens_isWordAt : am_Y M_Tokens_isWordAt 4 := ⟨am_in 665 (by decide +kernel) rfl, In_Tokens, ⟨by decide, by decide⟩, by decide +kernel, by decide⟩
set_option maxRecDepth 100000 in
theorem St_Tokens_isWordAt : Cond.static M_Tokens_isWordAt.1 ∈ lw_g := am_in 664 (by decide +kernel) rfl
set_option maxRecDepth 100000 in
theorem Y_Tokens_add : am_Y M_Tokens_add 3 := ⟨am_in 669 (by decide +kernel) rfl, In_Tokens, ⟨by decide, by decide⟩, by decide +kernel, by decide⟩
set_option maxRecDepth 100000 in
theorem Vi_Tokens_add : Cond.instanceMethod M_Tokens_add.1 ∈ lw_g := am_in 668 (by decide +kernel) rfl
set_option maxRecDepth 100000 in
theorem Vs_Tokens_add : Cond.selects M_Tokens_add.1.cls M_Tokens_add.1 M_Tokens_add.1 ∈ lw_g := am_in 1 (by decide +kernel) rfl
set_option maxRecDepth 100000 in
theorem Y_Tokens_valueOf : am_Y M_Tokens_valueOf 3 := ⟨am_in 672 (by decide +kernel) rfl, In_Tokens, ⟨by decide, by decide⟩, by decide +kernel, by decide⟩
set_option maxRecDepth 100000 in
theorem St_Tokens_valueOf : Cond.static M_Tokens_valueOf.1 ∈ lw_g := am_in 671 (by decide +kernel) rfl
set_option maxRecDepth 100000 in
theorem Y_String_indexOf : am_Y M_String_indexOf 1 := ⟨am_in 677 (by decide +kernel) rfl, In_String, ⟨by decide, by decide⟩, by decide +kernel, by decide⟩
set_option maxRecDepth 100000 in
theorem Vi_String_indexOf : Cond.instanceMethod M_String_indexOf.1 ∈ lw_g := am_in 675 (by decide +kernel) rfl
set_option maxRecDepth 100000 in
theorem Vs_String_indexOf : Cond.selects M_String_indexOf.1.cls M_String_indexOf.1 M_String_indexOf.1 ∈ lw_g := am_in 676 (by decide +kernel) rfl
set_option maxRecDepth 100000 in
theorem Y_String_indexOf_III : am_Y M_String_indexOf_III 2 := ⟨am_in 681 (by decide +kernel) rfl, In_String, ⟨by decide, by decide⟩, by decide +kernel, by decide⟩
set_option maxRecDepth 100000 in
theorem Vi_String_indexOf_III : Cond.instanceMethod M_String_indexOf_III.1 ∈ lw_g := am_in 679 (by decide +kernel) rfl
set_option maxRecDepth 100000 in
theorem Vs_String_indexOf_III : Cond.selects M_String_indexOf_III.1.cls M_String_indexOf_III.1 M_String_indexOf_III.1 ∈ lw_g := am_in 680 (by decide +kernel) rfl
set_option maxRecDepth 100000 in
theorem Y_StringLatin1_indexOf : am_Y M_StringLatin1_indexOf 4 := ⟨am_in 685 (by decide +kernel) rfl, In_StringLatin1, ⟨by decide, by decide⟩, by decide +kernel, by decide⟩
set_option maxRecDepth 100000 in
theorem St_StringLatin1_indexOf : Cond.static M_StringLatin1_indexOf.1 ∈ lw_g := am_in 684 (by decide +kernel) rfl
set_option maxRecDepth 100000 in
theorem Y_StringLatin1_canEncode : am_Y M_StringLatin1_canEncode 1 := ⟨am_in 688 (by decide +kernel) rfl, In_StringLatin1, ⟨by decide, by decide⟩, by decide +kernel, by decide⟩
set_option maxRecDepth 100000 in
theorem St_StringLatin1_canEncode : Cond.static M_StringLatin1_canEncode.1 ∈ lw_g := am_in 687 (by decide +kernel) rfl
set_option maxRecDepth 100000 in
theorem Y_Math_max : am_Y M_Math_max 2 := ⟨am_in 691 (by decide +kernel) rfl, In_Math, ⟨by decide, by decide⟩, by decide +kernel, by decide⟩
set_option maxRecDepth 100000 in
theorem St_Math_max : Cond.static M_Math_max.1 ∈ lw_g := am_in 690 (by decide +kernel) rfl
set_option maxRecDepth 100000 in
theorem Y_Math_min : am_Y M_Math_min 2 := ⟨am_in 694 (by decide +kernel) rfl, In_Math, ⟨by decide, by decide⟩, by decide +kernel, by decide⟩
set_option maxRecDepth 100000 in
theorem St_Math_min : Cond.static M_Math_min.1 ∈ lw_g := am_in 693 (by decide +kernel) rfl
set_option maxRecDepth 100000 in
theorem Y_StringLatin1_indexOfChar : am_Y M_StringLatin1_indexOfChar 4 := ⟨am_in 697 (by decide +kernel) rfl, In_StringLatin1, ⟨by decide, by decide⟩, by decide +kernel, by decide⟩
set_option maxRecDepth 100000 in
theorem St_StringLatin1_indexOfChar : Cond.static M_StringLatin1_indexOfChar.1 ∈ lw_g := am_in 696 (by decide +kernel) rfl
set_option maxRecDepth 100000 in
theorem Y_StringUTF16_indexOf : am_Y M_StringUTF16_indexOf 4 := ⟨am_in 700 (by decide +kernel) rfl, In_StringUTF16, ⟨by decide, by decide⟩, by decide +kernel, by decide⟩
set_option maxRecDepth 100000 in
theorem St_StringUTF16_indexOf : Cond.static M_StringUTF16_indexOf.1 ∈ lw_g := am_in 699 (by decide +kernel) rfl
set_option maxRecDepth 100000 in
theorem Y_StringUTF16_indexOfChar : am_Y M_StringUTF16_indexOfChar 4 := ⟨am_in 706 (by decide +kernel) rfl, In_StringUTF16, ⟨by decide, by decide⟩, by decide +kernel, by decide⟩
set_option maxRecDepth 100000 in
theorem St_StringUTF16_indexOfChar : Cond.static M_StringUTF16_indexOfChar.1 ∈ lw_g := am_in 705 (by decide +kernel) rfl
set_option maxRecDepth 100000 in
theorem Y_StringUTF16_checkBoundsBeginEnd : am_Y M_StringUTF16_checkBoundsBeginEnd 3 := ⟨am_in 709 (by decide +kernel) rfl, In_StringUTF16, ⟨by decide, by decide⟩, by decide +kernel, by decide⟩
set_option maxRecDepth 100000 in
theorem St_StringUTF16_checkBoundsBeginEnd : Cond.static M_StringUTF16_checkBoundsBeginEnd.1 ∈ lw_g := am_in 708 (by decide +kernel) rfl
set_option maxRecDepth 100000 in
theorem Y_String_checkBoundsBeginEnd : am_Y M_String_checkBoundsBeginEnd 3 := ⟨am_in 712 (by decide +kernel) rfl, In_String, ⟨by decide, by decide⟩, by decide +kernel, by decide⟩
set_option maxRecDepth 100000 in
theorem St_String_checkBoundsBeginEnd : Cond.static M_String_checkBoundsBeginEnd.1 ∈ lw_g := am_in 711 (by decide +kernel) rfl
set_option maxRecDepth 100000 in
theorem Y_Preconditions_checkFromToIndex : am_Y M_Preconditions_checkFromToIndex 4 := ⟨am_in 715 (by decide +kernel) rfl, In_Preconditions, ⟨by decide, by decide⟩, by decide +kernel, by decide⟩
set_option maxRecDepth 100000 in
theorem St_Preconditions_checkFromToIndex : Cond.static M_Preconditions_checkFromToIndex.1 ∈ lw_g := am_in 714 (by decide +kernel) rfl
set_option maxRecDepth 100000 in
theorem Y_StringUTF16_indexOfCharUnsafe : am_Y M_StringUTF16_indexOfCharUnsafe 4 := ⟨am_in 718 (by decide +kernel) rfl, In_StringUTF16, ⟨by decide, by decide⟩, by decide +kernel, by decide⟩
set_option maxRecDepth 100000 in
theorem St_StringUTF16_indexOfCharUnsafe : Cond.static M_StringUTF16_indexOfCharUnsafe.1 ∈ lw_g := am_in 717 (by decide +kernel) rfl
set_option maxRecDepth 100000 in
theorem Y_StringUTF16_indexOfSupplementary : am_Y M_StringUTF16_indexOfSupplementary 4 := ⟨am_in 721 (by decide +kernel) rfl, In_StringUTF16, ⟨by decide, by decide⟩, by decide +kernel, by decide⟩
set_option maxRecDepth 100000 in
theorem St_StringUTF16_indexOfSupplementary : Cond.static M_StringUTF16_indexOfSupplementary.1 ∈ lw_g := am_in 720 (by decide +kernel) rfl
set_option maxRecDepth 100000 in
theorem Y_Character_isValidCodePoint : am_Y M_Character_isValidCodePoint 1 := ⟨am_in 724 (by decide +kernel) rfl, In_Character, ⟨by decide, by decide⟩, by decide +kernel, by decide⟩
set_option maxRecDepth 100000 in
theorem St_Character_isValidCodePoint : Cond.static M_Character_isValidCodePoint.1 ∈ lw_g := am_in 723 (by decide +kernel) rfl
set_option maxRecDepth 100000 in
theorem Y_Character_highSurrogate : am_Y M_Character_highSurrogate 1 := ⟨am_in 727 (by decide +kernel) rfl, In_Character, ⟨by decide, by decide⟩, by decide +kernel, by decide⟩
set_option maxRecDepth 100000 in
theorem St_Character_highSurrogate : Cond.static M_Character_highSurrogate.1 ∈ lw_g := am_in 726 (by decide +kernel) rfl
set_option maxRecDepth 100000 in
theorem Y_Character_lowSurrogate : am_Y M_Character_lowSurrogate 1 := ⟨am_in 731 (by decide +kernel) rfl, In_Character, ⟨by decide, by decide⟩, by decide +kernel, by decide⟩
set_option maxRecDepth 100000 in
theorem St_Character_lowSurrogate : Cond.static M_Character_lowSurrogate.1 ∈ lw_g := am_in 730 (by decide +kernel) rfl
set_option maxRecDepth 100000 in
theorem Y_River_clear : am_Y M_River_clear 0 := ⟨am_in 736 (by decide +kernel) rfl, In_River, ⟨by decide, by decide⟩, by decide +kernel, by decide⟩
set_option maxRecDepth 100000 in
theorem Vi_River_clear : Cond.instanceMethod M_River_clear.1 ∈ lw_g := am_in 734 (by decide +kernel) rfl
set_option maxRecDepth 100000 in
theorem Vs_River_clear : Cond.selects M_River_clear.1.cls M_River_clear.1 M_River_clear.1 ∈ lw_g := am_in 735 (by decide +kernel) rfl
set_option maxRecDepth 100000 in
theorem Y_Arrays_fill : am_Y M_Arrays_fill 2 := ⟨am_in 739 (by decide +kernel) rfl, In_Arrays, ⟨by decide, by decide⟩, by decide +kernel, by decide⟩
set_option maxRecDepth 100000 in
theorem St_Arrays_fill : Cond.static M_Arrays_fill.1 ∈ lw_g := am_in 738 (by decide +kernel) rfl
set_option maxRecDepth 100000 in
theorem Y_Law_clear : am_Y M_Law_clear 0 := ⟨am_in 743 (by decide +kernel) rfl, In_Law, ⟨by decide, by decide⟩, by decide +kernel, by decide⟩
set_option maxRecDepth 100000 in
theorem Vi_Law_clear : Cond.instanceMethod M_Law_clear.1 ∈ lw_g := am_in 741 (by decide +kernel) rfl
set_option maxRecDepth 100000 in
theorem Vs_Law_clear : Cond.selects M_Law_clear.1.cls M_Law_clear.1 M_Law_clear.1 ∈ lw_g := am_in 742 (by decide +kernel) rfl
set_option maxRecDepth 100000 in
theorem Y_Reader_readHead : am_Y M_Reader_readHead 0 := ⟨am_in 747 (by decide +kernel) rfl, In_Reader, ⟨by decide, by decide⟩, by decide +kernel, by decide⟩
set_option maxRecDepth 100000 in
theorem Vi_Reader_readHead : Cond.instanceMethod M_Reader_readHead.1 ∈ lw_g := am_in 746 (by decide +kernel) rfl
set_option maxRecDepth 100000 in
theorem Vs_Reader_readHead : Cond.selects M_Reader_readHead.1.cls M_Reader_readHead.1 M_Reader_readHead.1 ∈ lw_g := am_in 2 (by decide +kernel) rfl
set_option maxRecDepth 100000 in
theorem Y_Reader_expect : am_Y M_Reader_expect 1 := ⟨am_in 751 (by decide +kernel) rfl, In_Reader, ⟨by decide, by decide⟩, by decide +kernel, by decide⟩
set_option maxRecDepth 100000 in
theorem Vi_Reader_expect : Cond.instanceMethod M_Reader_expect.1 ∈ lw_g := am_in 750 (by decide +kernel) rfl
set_option maxRecDepth 100000 in
theorem Vs_Reader_expect : Cond.selects M_Reader_expect.1.cls M_Reader_expect.1 M_Reader_expect.1 ∈ lw_g := am_in 3 (by decide +kernel) rfl
set_option maxRecDepth 100000 in
theorem Y_Reader_take : am_Y M_Reader_take 1 := ⟨am_in 755 (by decide +kernel) rfl, In_Reader, ⟨by decide, by decide⟩, by decide +kernel, by decide⟩
set_option maxRecDepth 100000 in
theorem Vi_Reader_take : Cond.instanceMethod M_Reader_take.1 ∈ lw_g := am_in 754 (by decide +kernel) rfl
set_option maxRecDepth 100000 in
theorem Vs_Reader_take : Cond.selects M_Reader_take.1.cls M_Reader_take.1 M_Reader_take.1 ∈ lw_g := am_in 4 (by decide +kernel) rfl
set_option maxRecDepth 100000 in
theorem Y_Reader_kind : am_Y M_Reader_kind 0 := ⟨am_in 759 (by decide +kernel) rfl, In_Reader, ⟨by decide, by decide⟩, by decide +kernel, by decide⟩
set_option maxRecDepth 100000 in
theorem Vi_Reader_kind : Cond.instanceMethod M_Reader_kind.1 ∈ lw_g := am_in 758 (by decide +kernel) rfl
set_option maxRecDepth 100000 in
theorem Vs_Reader_kind : Cond.selects M_Reader_kind.1.cls M_Reader_kind.1 M_Reader_kind.1 ∈ lw_g := am_in 5 (by decide +kernel) rfl
set_option maxRecDepth 100000 in
theorem Y_Reader_blame : am_Y M_Reader_blame 1 := ⟨am_in 763 (by decide +kernel) rfl, In_Reader, ⟨by decide, by decide⟩, by decide +kernel, by decide⟩
set_option maxRecDepth 100000 in
theorem Vi_Reader_blame : Cond.instanceMethod M_Reader_blame.1 ∈ lw_g := am_in 762 (by decide +kernel) rfl
set_option maxRecDepth 100000 in
theorem Vs_Reader_blame : Cond.selects M_Reader_blame.1.cls M_Reader_blame.1 M_Reader_blame.1 ∈ lw_g := am_in 6 (by decide +kernel) rfl
set_option maxRecDepth 100000 in
theorem Y_Reader_readNumber : am_Y M_Reader_readNumber 2 := ⟨am_in 767 (by decide +kernel) rfl, In_Reader, ⟨by decide, by decide⟩, by decide +kernel, by decide⟩
set_option maxRecDepth 100000 in
theorem Vi_Reader_readNumber : Cond.instanceMethod M_Reader_readNumber.1 ∈ lw_g := am_in 766 (by decide +kernel) rfl
set_option maxRecDepth 100000 in
theorem Vs_Reader_readNumber : Cond.selects M_Reader_readNumber.1.cls M_Reader_readNumber.1 M_Reader_readNumber.1 ∈ lw_g := am_in 7 (by decide +kernel) rfl
set_option maxRecDepth 100000 in
theorem Y_Reader_readLine : am_Y M_Reader_readLine 0 := ⟨am_in 771 (by decide +kernel) rfl, In_Reader, ⟨by decide, by decide⟩, by decide +kernel, by decide⟩
set_option maxRecDepth 100000 in
theorem Vi_Reader_readLine : Cond.instanceMethod M_Reader_readLine.1 ∈ lw_g := am_in 770 (by decide +kernel) rfl
set_option maxRecDepth 100000 in
theorem Vs_Reader_readLine : Cond.selects M_Reader_readLine.1.cls M_Reader_readLine.1 M_Reader_readLine.1 ∈ lw_g := am_in 8 (by decide +kernel) rfl
set_option maxRecDepth 100000 in
theorem Y_Reader_readSpan : am_Y M_Reader_readSpan 0 := ⟨am_in 775 (by decide +kernel) rfl, In_Reader, ⟨by decide, by decide⟩, by decide +kernel, by decide⟩
set_option maxRecDepth 100000 in
theorem Vi_Reader_readSpan : Cond.instanceMethod M_Reader_readSpan.1 ∈ lw_g := am_in 774 (by decide +kernel) rfl
set_option maxRecDepth 100000 in
theorem Vs_Reader_readSpan : Cond.selects M_Reader_readSpan.1.cls M_Reader_readSpan.1 M_Reader_readSpan.1 ∈ lw_g := am_in 9 (by decide +kernel) rfl
set_option maxRecDepth 100000 in
theorem Y_Reader_readPerson : am_Y M_Reader_readPerson 0 := ⟨am_in 779 (by decide +kernel) rfl, In_Reader, ⟨by decide, by decide⟩, by decide +kernel, by decide⟩
set_option maxRecDepth 100000 in
theorem Vi_Reader_readPerson : Cond.instanceMethod M_Reader_readPerson.1 ∈ lw_g := am_in 778 (by decide +kernel) rfl
set_option maxRecDepth 100000 in
theorem Vs_Reader_readPerson : Cond.selects M_Reader_readPerson.1.cls M_Reader_readPerson.1 M_Reader_readPerson.1 ∈ lw_g := am_in 10 (by decide +kernel) rfl
set_option maxRecDepth 100000 in
theorem Y_Reader_readSpot : am_Y M_Reader_readSpot 0 := ⟨am_in 783 (by decide +kernel) rfl, In_Reader, ⟨by decide, by decide⟩, by decide +kernel, by decide⟩
set_option maxRecDepth 100000 in
theorem Vi_Reader_readSpot : Cond.instanceMethod M_Reader_readSpot.1 ∈ lw_g := am_in 782 (by decide +kernel) rfl
set_option maxRecDepth 100000 in
theorem Vs_Reader_readSpot : Cond.selects M_Reader_readSpot.1.cls M_Reader_readSpot.1 M_Reader_readSpot.1 ∈ lw_g := am_in 11 (by decide +kernel) rfl
set_option maxRecDepth 100000 in
theorem Y_Reader_beginLaw : am_Y M_Reader_beginLaw 1 := ⟨am_in 787 (by decide +kernel) rfl, In_Reader, ⟨by decide, by decide⟩, by decide +kernel, by decide⟩
set_option maxRecDepth 100000 in
theorem Vi_Reader_beginLaw : Cond.instanceMethod M_Reader_beginLaw.1 ∈ lw_g := am_in 786 (by decide +kernel) rfl
set_option maxRecDepth 100000 in
theorem Vs_Reader_beginLaw : Cond.selects M_Reader_beginLaw.1.cls M_Reader_beginLaw.1 M_Reader_beginLaw.1 ∈ lw_g := am_in 12 (by decide +kernel) rfl
set_option maxRecDepth 100000 in
theorem Y_Reader_readTruth : am_Y M_Reader_readTruth 1 := ⟨am_in 791 (by decide +kernel) rfl, In_Reader, ⟨by decide, by decide⟩, by decide +kernel, by decide⟩
set_option maxRecDepth 100000 in
theorem Vi_Reader_readTruth : Cond.instanceMethod M_Reader_readTruth.1 ∈ lw_g := am_in 790 (by decide +kernel) rfl
set_option maxRecDepth 100000 in
theorem Vs_Reader_readTruth : Cond.selects M_Reader_readTruth.1.cls M_Reader_readTruth.1 M_Reader_readTruth.1 ∈ lw_g := am_in 13 (by decide +kernel) rfl
set_option maxRecDepth 100000 in
theorem Y_Reader_readBoth : am_Y M_Reader_readBoth 1 := ⟨am_in 795 (by decide +kernel) rfl, In_Reader, ⟨by decide, by decide⟩, by decide +kernel, by decide⟩
set_option maxRecDepth 100000 in
theorem Vi_Reader_readBoth : Cond.instanceMethod M_Reader_readBoth.1 ∈ lw_g := am_in 794 (by decide +kernel) rfl
set_option maxRecDepth 100000 in
theorem Vs_Reader_readBoth : Cond.selects M_Reader_readBoth.1.cls M_Reader_readBoth.1 M_Reader_readBoth.1 ∈ lw_g := am_in 14 (by decide +kernel) rfl
set_option maxRecDepth 100000 in
theorem Y_Reader_readUnit : am_Y M_Reader_readUnit 1 := ⟨am_in 799 (by decide +kernel) rfl, In_Reader, ⟨by decide, by decide⟩, by decide +kernel, by decide⟩
set_option maxRecDepth 100000 in
theorem Vi_Reader_readUnit : Cond.instanceMethod M_Reader_readUnit.1 ∈ lw_g := am_in 798 (by decide +kernel) rfl
set_option maxRecDepth 100000 in
theorem Vs_Reader_readUnit : Cond.selects M_Reader_readUnit.1.cls M_Reader_readUnit.1 M_Reader_readUnit.1 ∈ lw_g := am_in 15 (by decide +kernel) rfl
set_option maxRecDepth 100000 in
theorem Y_Law_put : am_Y M_Law_put 1 := ⟨am_in 803 (by decide +kernel) rfl, In_Law, ⟨by decide, by decide⟩, by decide +kernel, by decide⟩
set_option maxRecDepth 100000 in
theorem Vi_Law_put : Cond.instanceMethod M_Law_put.1 ∈ lw_g := am_in 801 (by decide +kernel) rfl
set_option maxRecDepth 100000 in
theorem Vs_Law_put : Cond.selects M_Law_put.1.cls M_Law_put.1 M_Law_put.1 ∈ lw_g := am_in 802 (by decide +kernel) rfl
set_option maxRecDepth 100000 in
theorem Y_Reader_readSum : am_Y M_Reader_readSum 1 := ⟨am_in 807 (by decide +kernel) rfl, In_Reader, ⟨by decide, by decide⟩, by decide +kernel, by decide⟩
set_option maxRecDepth 100000 in
theorem Vi_Reader_readSum : Cond.instanceMethod M_Reader_readSum.1 ∈ lw_g := am_in 806 (by decide +kernel) rfl
set_option maxRecDepth 100000 in
theorem Vs_Reader_readSum : Cond.selects M_Reader_readSum.1.cls M_Reader_readSum.1 M_Reader_readSum.1 ∈ lw_g := am_in 16 (by decide +kernel) rfl
set_option maxRecDepth 100000 in
theorem Y_Reader_readTerm : am_Y M_Reader_readTerm 1 := ⟨am_in 811 (by decide +kernel) rfl, In_Reader, ⟨by decide, by decide⟩, by decide +kernel, by decide⟩
set_option maxRecDepth 100000 in
theorem Vi_Reader_readTerm : Cond.instanceMethod M_Reader_readTerm.1 ∈ lw_g := am_in 810 (by decide +kernel) rfl
set_option maxRecDepth 100000 in
theorem Vs_Reader_readTerm : Cond.selects M_Reader_readTerm.1.cls M_Reader_readTerm.1 M_Reader_readTerm.1 ∈ lw_g := am_in 17 (by decide +kernel) rfl
set_option maxRecDepth 100000 in
theorem Y_Reader_readAtom : am_Y M_Reader_readAtom 1 := ⟨am_in 815 (by decide +kernel) rfl, In_Reader, ⟨by decide, by decide⟩, by decide +kernel, by decide⟩
set_option maxRecDepth 100000 in
theorem Vi_Reader_readAtom : Cond.instanceMethod M_Reader_readAtom.1 ∈ lw_g := am_in 814 (by decide +kernel) rfl
set_option maxRecDepth 100000 in
theorem Vs_Reader_readAtom : Cond.selects M_Reader_readAtom.1.cls M_Reader_readAtom.1 M_Reader_readAtom.1 ∈ lw_g := am_in 18 (by decide +kernel) rfl
set_option maxRecDepth 100000 in
theorem Y_Reader_askedBy : am_Y M_Reader_askedBy 1 := ⟨am_in 819 (by decide +kernel) rfl, In_Reader, ⟨by decide, by decide⟩, by decide +kernel, by decide⟩
set_option maxRecDepth 100000 in
theorem Vi_Reader_askedBy : Cond.instanceMethod M_Reader_askedBy.1 ∈ lw_g := am_in 818 (by decide +kernel) rfl
set_option maxRecDepth 100000 in
theorem Vs_Reader_askedBy : Cond.selects M_Reader_askedBy.1.cls M_Reader_askedBy.1 M_Reader_askedBy.1 ∈ lw_g := am_in 19 (by decide +kernel) rfl
set_option maxRecDepth 100000 in
theorem Y_Reader_comparing : am_Y M_Reader_comparing 0 := ⟨am_in 823 (by decide +kernel) rfl, In_Reader, ⟨by decide, by decide⟩, by decide +kernel, by decide⟩
set_option maxRecDepth 100000 in
theorem Vi_Reader_comparing : Cond.instanceMethod M_Reader_comparing.1 ∈ lw_g := am_in 822 (by decide +kernel) rfl
set_option maxRecDepth 100000 in
theorem Vs_Reader_comparing : Cond.selects M_Reader_comparing.1.cls M_Reader_comparing.1 M_Reader_comparing.1 ∈ lw_g := am_in 20 (by decide +kernel) rfl
set_option maxRecDepth 100000 in
theorem Y_River_fillRows : am_Y M_River_fillRows 2 := ⟨am_in 827 (by decide +kernel) rfl, In_River, ⟨by decide, by decide⟩, by decide +kernel, by decide⟩
set_option maxRecDepth 100000 in
theorem Vi_River_fillRows : Cond.instanceMethod M_River_fillRows.1 ∈ lw_g := am_in 825 (by decide +kernel) rfl
set_option maxRecDepth 100000 in
theorem Vs_River_fillRows : Cond.selects M_River_fillRows.1.cls M_River_fillRows.1 M_River_fillRows.1 ∈ lw_g := am_in 826 (by decide +kernel) rfl
set_option maxRecDepth 100000 in
theorem Y_River_row : am_Y M_River_row 3 := ⟨am_in 830 (by decide +kernel) rfl, In_River, ⟨by decide, by decide⟩, by decide +kernel, by decide⟩
set_option maxRecDepth 100000 in
theorem St_River_row : Cond.static M_River_row.1 ∈ lw_g := am_in 829 (by decide +kernel) rfl
set_option maxRecDepth 100000 in
theorem Y_River_walkable : am_Y M_River_walkable 4 := ⟨am_in 834 (by decide +kernel) rfl, In_River, ⟨by decide, by decide⟩, by decide +kernel, by decide⟩
set_option maxRecDepth 100000 in
theorem Vi_River_walkable : Cond.instanceMethod M_River_walkable.1 ∈ lw_g := am_in 833 (by decide +kernel) rfl
set_option maxRecDepth 100000 in
theorem Vs_River_walkable : Cond.selects M_River_walkable.1.cls M_River_walkable.1 M_River_walkable.1 ∈ lw_g := am_in 21 (by decide +kernel) rfl
set_option maxRecDepth 100000 in
theorem Y_Law_ask : am_Y M_Law_ask 6 := ⟨am_in 838 (by decide +kernel) rfl, In_Law, ⟨by decide, by decide⟩, by decide +kernel, by decide⟩
set_option maxRecDepth 100000 in
theorem Vi_Law_ask : Cond.instanceMethod M_Law_ask.1 ∈ lw_g := am_in 836 (by decide +kernel) rfl
set_option maxRecDepth 100000 in
theorem Vs_Law_ask : Cond.selects M_Law_ask.1.cls M_Law_ask.1 M_Law_ask.1 ∈ lw_g := am_in 837 (by decide +kernel) rfl
set_option maxRecDepth 100000 in
theorem Y_Law_holds : am_Y M_Law_holds 0 := ⟨am_in 842 (by decide +kernel) rfl, In_Law, ⟨by decide, by decide⟩, by decide +kernel, by decide⟩
set_option maxRecDepth 100000 in
theorem Vi_Law_holds : Cond.instanceMethod M_Law_holds.1 ∈ lw_g := am_in 840 (by decide +kernel) rfl
set_option maxRecDepth 100000 in
theorem Vs_Law_holds : Cond.selects M_Law_holds.1.cls M_Law_holds.1 M_Law_holds.1 ∈ lw_g := am_in 841 (by decide +kernel) rfl
set_option maxRecDepth 100000 in
theorem Y_Law_join : am_Y M_Law_join 3 := ⟨am_in 845 (by decide +kernel) rfl, In_Law, ⟨by decide, by decide⟩, by decide +kernel, by decide⟩
set_option maxRecDepth 100000 in
theorem St_Law_join : Cond.static M_Law_join.1 ∈ lw_g := am_in 844 (by decide +kernel) rfl
set_option maxRecDepth 100000 in
theorem Y_Law_kept : am_Y M_Law_kept 1 := ⟨am_in 848 (by decide +kernel) rfl, In_Law, ⟨by decide, by decide⟩, by decide +kernel, by decide⟩
set_option maxRecDepth 100000 in
theorem St_Law_kept : Cond.static M_Law_kept.1 ∈ lw_g := am_in 847 (by decide +kernel) rfl
set_option maxRecDepth 100000 in
theorem Y_Math_min_JJJ : am_Y M_Math_min_JJJ 2 := ⟨am_in 853 (by decide +kernel) rfl, In_Math, ⟨by decide, by decide⟩, by decide +kernel, by decide⟩
set_option maxRecDepth 100000 in
theorem St_Math_min_JJJ : Cond.static M_Math_min_JJJ.1 ∈ lw_g := am_in 852 (by decide +kernel) rfl
set_option maxRecDepth 100000 in
theorem Y_Math_max_JJJ : am_Y M_Math_max_JJJ 2 := ⟨am_in 856 (by decide +kernel) rfl, In_Math, ⟨by decide, by decide⟩, by decide +kernel, by decide⟩
set_option maxRecDepth 100000 in
theorem St_Math_max_JJJ : Cond.static M_Math_max_JJJ.1 ∈ lw_g := am_in 855 (by decide +kernel) rfl
set_option maxRecDepth 100000 in
theorem Y_River_serving : am_Y M_River_serving 4 := ⟨am_in 860 (by decide +kernel) rfl, In_River, ⟨by decide, by decide⟩, by decide +kernel, by decide⟩
set_option maxRecDepth 100000 in
theorem Vi_River_serving : Cond.instanceMethod M_River_serving.1 ∈ lw_g := am_in 859 (by decide +kernel) rfl
set_option maxRecDepth 100000 in
theorem Vs_River_serving : Cond.selects M_River_serving.1.cls M_River_serving.1 M_River_serving.1 ∈ lw_g := am_in 22 (by decide +kernel) rfl
set_option maxRecDepth 100000 in
theorem Y_River_copyFrom : am_Y M_River_copyFrom 1 := ⟨am_in 864 (by decide +kernel) rfl, In_River, ⟨by decide, by decide⟩, by decide +kernel, by decide⟩
set_option maxRecDepth 100000 in
theorem Vi_River_copyFrom : Cond.instanceMethod M_River_copyFrom.1 ∈ lw_g := am_in 862 (by decide +kernel) rfl
set_option maxRecDepth 100000 in
theorem Vs_River_copyFrom : Cond.selects M_River_copyFrom.1.cls M_River_copyFrom.1 M_River_copyFrom.1 ∈ lw_g := am_in 863 (by decide +kernel) rfl
set_option maxRecDepth 100000 in
theorem Y_State_begin : am_Y M_State_begin 1 := ⟨am_in 871 (by decide +kernel) rfl, In_State, ⟨by decide, by decide⟩, by decide +kernel, by decide⟩
set_option maxRecDepth 100000 in
theorem Vi_State_begin : Cond.instanceMethod M_State_begin.1 ∈ lw_g := am_in 869 (by decide +kernel) rfl
set_option maxRecDepth 100000 in
theorem Vs_State_begin : Cond.selects M_State_begin.1.cls M_State_begin.1 M_State_begin.1 ∈ lw_g := am_in 870 (by decide +kernel) rfl
set_option maxRecDepth 100000 in
theorem Y_State_markDone : am_Y M_State_markDone 1 := ⟨am_in 877 (by decide +kernel) rfl, In_State, ⟨by decide, by decide⟩, by decide +kernel, by decide⟩
set_option maxRecDepth 100000 in
theorem Vi_State_markDone : Cond.instanceMethod M_State_markDone.1 ∈ lw_g := am_in 876 (by decide +kernel) rfl
set_option maxRecDepth 100000 in
theorem Vs_State_markDone : Cond.selects M_State_markDone.1.cls M_State_markDone.1 M_State_markDone.1 ∈ lw_g := am_in 23 (by decide +kernel) rfl
set_option maxRecDepth 100000 in
theorem Y_Past_forget : am_Y M_Past_forget 0 := ⟨am_in 881 (by decide +kernel) rfl, In_Past, ⟨by decide, by decide⟩, by decide +kernel, by decide⟩
set_option maxRecDepth 100000 in
theorem Vi_Past_forget : Cond.instanceMethod M_Past_forget.1 ∈ lw_g := am_in 879 (by decide +kernel) rfl
set_option maxRecDepth 100000 in
theorem Vs_Past_forget : Cond.selects M_Past_forget.1.cls M_Past_forget.1 M_Past_forget.1 ∈ lw_g := am_in 880 (by decide +kernel) rfl
set_option maxRecDepth 100000 in
theorem Y_Weeks_forget : am_Y M_Weeks_forget 0 := ⟨am_in 885 (by decide +kernel) rfl, In_Weeks, ⟨by decide, by decide⟩, by decide +kernel, by decide⟩
set_option maxRecDepth 100000 in
theorem Vi_Weeks_forget : Cond.instanceMethod M_Weeks_forget.1 ∈ lw_g := am_in 883 (by decide +kernel) rfl
set_option maxRecDepth 100000 in
theorem Vs_Weeks_forget : Cond.selects M_Weeks_forget.1.cls M_Weeks_forget.1 M_Weeks_forget.1 ∈ lw_g := am_in 884 (by decide +kernel) rfl
set_option maxRecDepth 100000 in
theorem Y_Top_fault : am_Y M_Top_fault 1 := ⟨am_in 889 (by decide +kernel) rfl, In_Top, ⟨by decide, by decide⟩, by decide +kernel, by decide⟩
set_option maxRecDepth 100000 in
theorem Vi_Top_fault : Cond.instanceMethod M_Top_fault.1 ∈ lw_g := am_in 887 (by decide +kernel) rfl
set_option maxRecDepth 100000 in
theorem Vs_Top_fault : Cond.selects M_Top_fault.1.cls M_Top_fault.1 M_Top_fault.1 ∈ lw_g := am_in 888 (by decide +kernel) rfl
set_option maxRecDepth 100000 in
theorem Y_Top_span : am_Y M_Top_span 1 := ⟨am_in 893 (by decide +kernel) rfl, In_Top, ⟨by decide, by decide⟩, by decide +kernel, by decide⟩
set_option maxRecDepth 100000 in
theorem Vi_Top_span : Cond.instanceMethod M_Top_span.1 ∈ lw_g := am_in 891 (by decide +kernel) rfl
set_option maxRecDepth 100000 in
theorem Vs_Top_span : Cond.selects M_Top_span.1.cls M_Top_span.1 M_Top_span.1 ∈ lw_g := am_in 892 (by decide +kernel) rfl
set_option maxRecDepth 100000 in
theorem Y_River_hourOfWeek : am_Y M_River_hourOfWeek 1 := ⟨am_in 897 (by decide +kernel) rfl, In_River, ⟨by decide, by decide⟩, by decide +kernel, by decide⟩
set_option maxRecDepth 100000 in
theorem Vi_River_hourOfWeek : Cond.instanceMethod M_River_hourOfWeek.1 ∈ lw_g := am_in 895 (by decide +kernel) rfl
set_option maxRecDepth 100000 in
theorem Vs_River_hourOfWeek : Cond.selects M_River_hourOfWeek.1.cls M_River_hourOfWeek.1 M_River_hourOfWeek.1 ∈ lw_g := am_in 896 (by decide +kernel) rfl
set_option maxRecDepth 100000 in
theorem Y_Top_person : am_Y M_Top_person 2 := ⟨am_in 901 (by decide +kernel) rfl, In_Top, ⟨by decide, by decide⟩, by decide +kernel, by decide⟩
set_option maxRecDepth 100000 in
theorem Vi_Top_person : Cond.instanceMethod M_Top_person.1 ∈ lw_g := am_in 899 (by decide +kernel) rfl
set_option maxRecDepth 100000 in
theorem Vs_Top_person : Cond.selects M_Top_person.1.cls M_Top_person.1 M_Top_person.1 ∈ lw_g := am_in 900 (by decide +kernel) rfl
set_option maxRecDepth 100000 in
theorem Y_River_hasPerson : am_Y M_River_hasPerson 1 := ⟨am_in 905 (by decide +kernel) rfl, In_River, ⟨by decide, by decide⟩, by decide +kernel, by decide⟩
set_option maxRecDepth 100000 in
theorem Vi_River_hasPerson : Cond.instanceMethod M_River_hasPerson.1 ∈ lw_g := am_in 903 (by decide +kernel) rfl
set_option maxRecDepth 100000 in
theorem Vs_River_hasPerson : Cond.selects M_River_hasPerson.1.cls M_River_hasPerson.1 M_River_hasPerson.1 ∈ lw_g := am_in 904 (by decide +kernel) rfl
set_option maxRecDepth 100000 in
theorem Y_Top_why : am_Y M_Top_why 2 := ⟨am_in 909 (by decide +kernel) rfl, In_Top, ⟨by decide, by decide⟩, by decide +kernel, by decide⟩
set_option maxRecDepth 100000 in
theorem Vi_Top_why : Cond.instanceMethod M_Top_why.1 ∈ lw_g := am_in 907 (by decide +kernel) rfl
set_option maxRecDepth 100000 in
theorem Vs_Top_why : Cond.selects M_Top_why.1.cls M_Top_why.1 M_Top_why.1 ∈ lw_g := am_in 908 (by decide +kernel) rfl
set_option maxRecDepth 100000 in
theorem Y_State_hindrance : am_Y M_State_hindrance 3 := ⟨am_in 913 (by decide +kernel) rfl, In_State, ⟨by decide, by decide⟩, by decide +kernel, by decide⟩
set_option maxRecDepth 100000 in
theorem Vi_State_hindrance : Cond.instanceMethod M_State_hindrance.1 ∈ lw_g := am_in 911 (by decide +kernel) rfl
set_option maxRecDepth 100000 in
theorem Vs_State_hindrance : Cond.selects M_State_hindrance.1.cls M_State_hindrance.1 M_State_hindrance.1 ∈ lw_g := am_in 912 (by decide +kernel) rfl
set_option maxRecDepth 100000 in
theorem Y_State_lies : am_Y M_State_lies 1 := ⟨am_in 920 (by decide +kernel) rfl, In_State, ⟨by decide, by decide⟩, by decide +kernel, by decide⟩
set_option maxRecDepth 100000 in
theorem Vi_State_lies : Cond.instanceMethod M_State_lies.1 ∈ lw_g := am_in 918 (by decide +kernel) rfl
set_option maxRecDepth 100000 in
theorem Vs_State_lies : Cond.selects M_State_lies.1.cls M_State_lies.1 M_State_lies.1 ∈ lw_g := am_in 919 (by decide +kernel) rfl
set_option maxRecDepth 100000 in
theorem Y_River_hindrance : am_Y M_River_hindrance 4 := ⟨am_in 924 (by decide +kernel) rfl, In_River, ⟨by decide, by decide⟩, by decide +kernel, by decide⟩
set_option maxRecDepth 100000 in
theorem Vi_River_hindrance : Cond.instanceMethod M_River_hindrance.1 ∈ lw_g := am_in 922 (by decide +kernel) rfl
set_option maxRecDepth 100000 in
theorem Vs_River_hindrance : Cond.selects M_River_hindrance.1.cls M_River_hindrance.1 M_River_hindrance.1 ∈ lw_g := am_in 923 (by decide +kernel) rfl
set_option maxRecDepth 100000 in
theorem Y_Top_hasBit : am_Y M_Top_hasBit 2 := ⟨am_in 927 (by decide +kernel) rfl, In_Top, ⟨by decide, by decide⟩, by decide +kernel, by decide⟩
set_option maxRecDepth 100000 in
theorem St_Top_hasBit : Cond.static M_Top_hasBit.1 ∈ lw_g := am_in 926 (by decide +kernel) rfl
set_option maxRecDepth 100000 in
theorem Y_Top_act : am_Y M_Top_act 2 := ⟨am_in 931 (by decide +kernel) rfl, In_Top, ⟨by decide, by decide⟩, by decide +kernel, by decide⟩
set_option maxRecDepth 100000 in
theorem Vi_Top_act : Cond.instanceMethod M_Top_act.1 ∈ lw_g := am_in 929 (by decide +kernel) rfl
set_option maxRecDepth 100000 in
theorem Vs_Top_act : Cond.selects M_Top_act.1.cls M_Top_act.1 M_Top_act.1 ∈ lw_g := am_in 930 (by decide +kernel) rfl
set_option maxRecDepth 100000 in
theorem Y_Top_willChange : am_Y M_Top_willChange 0 := ⟨am_in 935 (by decide +kernel) rfl, In_Top, ⟨by decide, by decide⟩, by decide +kernel, by decide⟩
set_option maxRecDepth 100000 in
theorem Vi_Top_willChange : Cond.instanceMethod M_Top_willChange.1 ∈ lw_g := am_in 934 (by decide +kernel) rfl
set_option maxRecDepth 100000 in
theorem Vs_Top_willChange : Cond.selects M_Top_willChange.1.cls M_Top_willChange.1 M_Top_willChange.1 ∈ lw_g := am_in 24 (by decide +kernel) rfl
set_option maxRecDepth 100000 in
theorem Y_Past_keep : am_Y M_Past_keep 1 := ⟨am_in 939 (by decide +kernel) rfl, In_Past, ⟨by decide, by decide⟩, by decide +kernel, by decide⟩
set_option maxRecDepth 100000 in
theorem Vi_Past_keep : Cond.instanceMethod M_Past_keep.1 ∈ lw_g := am_in 937 (by decide +kernel) rfl
set_option maxRecDepth 100000 in
theorem Vs_Past_keep : Cond.selects M_Past_keep.1.cls M_Past_keep.1 M_Past_keep.1 ∈ lw_g := am_in 938 (by decide +kernel) rfl
set_option maxRecDepth 100000 in
theorem Y_State_copyFrom : am_Y M_State_copyFrom 1 := ⟨am_in 943 (by decide +kernel) rfl, In_State, ⟨by decide, by decide⟩, by decide +kernel, by decide⟩
set_option maxRecDepth 100000 in
theorem Vi_State_copyFrom : Cond.instanceMethod M_State_copyFrom.1 ∈ lw_g := am_in 941 (by decide +kernel) rfl
set_option maxRecDepth 100000 in
theorem Vs_State_copyFrom : Cond.selects M_State_copyFrom.1.cls M_State_copyFrom.1 M_State_copyFrom.1 ∈ lw_g := am_in 942 (by decide +kernel) rfl
set_option maxRecDepth 100000 in
theorem Y_River_moved : am_Y M_River_moved 3 := ⟨am_in 947 (by decide +kernel) rfl, In_River, ⟨by decide, by decide⟩, by decide +kernel, by decide⟩
set_option maxRecDepth 100000 in
theorem St_River_moved : Cond.static M_River_moved.1 ∈ lw_g := am_in 946 (by decide +kernel) rfl
set_option maxRecDepth 100000 in
theorem Y_Top_tell : am_Y M_Top_tell 2 := ⟨am_in 951 (by decide +kernel) rfl, In_Top, ⟨by decide, by decide⟩, by decide +kernel, by decide⟩
set_option maxRecDepth 100000 in
theorem Vi_Top_tell : Cond.instanceMethod M_Top_tell.1 ∈ lw_g := am_in 949 (by decide +kernel) rfl
set_option maxRecDepth 100000 in
theorem Vs_Top_tell : Cond.selects M_Top_tell.1.cls M_Top_tell.1 M_Top_tell.1 ∈ lw_g := am_in 950 (by decide +kernel) rfl
set_option maxRecDepth 100000 in
theorem Y_River_hasHour : am_Y M_River_hasHour 1 := ⟨am_in 955 (by decide +kernel) rfl, In_River, ⟨by decide, by decide⟩, by decide +kernel, by decide⟩
set_option maxRecDepth 100000 in
theorem Vi_River_hasHour : Cond.instanceMethod M_River_hasHour.1 ∈ lw_g := am_in 953 (by decide +kernel) rfl
set_option maxRecDepth 100000 in
theorem Vs_River_hasHour : Cond.selects M_River_hasHour.1.cls M_River_hasHour.1 M_River_hasHour.1 ∈ lw_g := am_in 954 (by decide +kernel) rfl
set_option maxRecDepth 100000 in
theorem Y_River_hasGap : am_Y M_River_hasGap 1 := ⟨am_in 959 (by decide +kernel) rfl, In_River, ⟨by decide, by decide⟩, by decide +kernel, by decide⟩
set_option maxRecDepth 100000 in
theorem Vi_River_hasGap : Cond.instanceMethod M_River_hasGap.1 ∈ lw_g := am_in 957 (by decide +kernel) rfl
set_option maxRecDepth 100000 in
theorem Vs_River_hasGap : Cond.selects M_River_hasGap.1.cls M_River_hasGap.1 M_River_hasGap.1 ∈ lw_g := am_in 958 (by decide +kernel) rfl
set_option maxRecDepth 100000 in
theorem Y_Top_fog : am_Y M_Top_fog 1 := ⟨am_in 963 (by decide +kernel) rfl, In_Top, ⟨by decide, by decide⟩, by decide +kernel, by decide⟩
set_option maxRecDepth 100000 in
theorem Vi_Top_fog : Cond.instanceMethod M_Top_fog.1 ∈ lw_g := am_in 961 (by decide +kernel) rfl
set_option maxRecDepth 100000 in
theorem Vs_Top_fog : Cond.selects M_Top_fog.1.cls M_Top_fog.1 M_Top_fog.1 ∈ lw_g := am_in 962 (by decide +kernel) rfl
set_option maxRecDepth 100000 in
theorem Y_Top_hours : am_Y M_Top_hours 1 := ⟨am_in 967 (by decide +kernel) rfl, In_Top, ⟨by decide, by decide⟩, by decide +kernel, by decide⟩
set_option maxRecDepth 100000 in
theorem Vi_Top_hours : Cond.instanceMethod M_Top_hours.1 ∈ lw_g := am_in 965 (by decide +kernel) rfl
set_option maxRecDepth 100000 in
theorem Vs_Top_hours : Cond.selects M_Top_hours.1.cls M_Top_hours.1 M_Top_hours.1 ∈ lw_g := am_in 966 (by decide +kernel) rfl
set_option maxRecDepth 100000 in
theorem Y_Integer_bitCount : am_Y M_Integer_bitCount 1 := ⟨am_in 970 (by decide +kernel) rfl, In_Integer, ⟨by decide, by decide⟩, by decide +kernel, by decide⟩
set_option maxRecDepth 100000 in
theorem St_Integer_bitCount : Cond.static M_Integer_bitCount.1 ∈ lw_g := am_in 969 (by decide +kernel) rfl
set_option maxRecDepth 100000 in
theorem Y_State_passHour : am_Y M_State_passHour 1 := ⟨am_in 977 (by decide +kernel) rfl, In_State, ⟨by decide, by decide⟩, by decide +kernel, by decide⟩
set_option maxRecDepth 100000 in
theorem Vi_State_passHour : Cond.instanceMethod M_State_passHour.1 ∈ lw_g := am_in 975 (by decide +kernel) rfl
set_option maxRecDepth 100000 in
theorem Vs_State_passHour : Cond.selects M_State_passHour.1.cls M_State_passHour.1 M_State_passHour.1 ∈ lw_g := am_in 976 (by decide +kernel) rfl
set_option maxRecDepth 100000 in
theorem Y_Top_undo : am_Y M_Top_undo 1 := ⟨am_in 984 (by decide +kernel) rfl, In_Top, ⟨by decide, by decide⟩, by decide +kernel, by decide⟩
set_option maxRecDepth 100000 in
theorem Vi_Top_undo : Cond.instanceMethod M_Top_undo.1 ∈ lw_g := am_in 982 (by decide +kernel) rfl
set_option maxRecDepth 100000 in
theorem Vs_Top_undo : Cond.selects M_Top_undo.1.cls M_Top_undo.1 M_Top_undo.1 ∈ lw_g := am_in 983 (by decide +kernel) rfl
set_option maxRecDepth 100000 in
theorem Y_Past_back : am_Y M_Past_back 1 := ⟨am_in 988 (by decide +kernel) rfl, In_Past, ⟨by decide, by decide⟩, by decide +kernel, by decide⟩
set_option maxRecDepth 100000 in
theorem Vi_Past_back : Cond.instanceMethod M_Past_back.1 ∈ lw_g := am_in 986 (by decide +kernel) rfl
set_option maxRecDepth 100000 in
theorem Vs_Past_back : Cond.selects M_Past_back.1.cls M_Past_back.1 M_Past_back.1 ∈ lw_g := am_in 987 (by decide +kernel) rfl
set_option maxRecDepth 100000 in
theorem Y_Top_judge : am_Y M_Top_judge 2 := ⟨am_in 994 (by decide +kernel) rfl, In_Top, ⟨by decide, by decide⟩, by decide +kernel, by decide⟩
set_option maxRecDepth 100000 in
theorem Vi_Top_judge : Cond.instanceMethod M_Top_judge.1 ∈ lw_g := am_in 992 (by decide +kernel) rfl
set_option maxRecDepth 100000 in
theorem Vs_Top_judge : Cond.selects M_Top_judge.1.cls M_Top_judge.1 M_Top_judge.1 ∈ lw_g := am_in 993 (by decide +kernel) rfl
set_option maxRecDepth 100000 in
theorem Y_Top_isTray : am_Y M_Top_isTray 1 := ⟨am_in 997 (by decide +kernel) rfl, In_Top, ⟨by decide, by decide⟩, by decide +kernel, by decide⟩
set_option maxRecDepth 100000 in
theorem St_Top_isTray : Cond.static M_Top_isTray.1 ∈ lw_g := am_in 996 (by decide +kernel) rfl
set_option maxRecDepth 100000 in
theorem Y_State_doAll : am_Y M_State_doAll 2 := ⟨am_in 1001 (by decide +kernel) rfl, In_State, ⟨by decide, by decide⟩, by decide +kernel, by decide⟩
set_option maxRecDepth 100000 in
theorem Vi_State_doAll : Cond.instanceMethod M_State_doAll.1 ∈ lw_g := am_in 999 (by decide +kernel) rfl
set_option maxRecDepth 100000 in
theorem Vs_State_doAll : Cond.selects M_State_doAll.1.cls M_State_doAll.1 M_State_doAll.1 ∈ lw_g := am_in 1000 (by decide +kernel) rfl
set_option maxRecDepth 100000 in
theorem Y_Tray_at : am_Y M_Tray_at 1 := ⟨am_in 1005 (by decide +kernel) rfl, In_Tray, ⟨by decide, by decide⟩, by decide +kernel, by decide⟩
set_option maxRecDepth 100000 in
theorem Vi_Tray_at : Cond.instanceMethod M_Tray_at.1 ∈ lw_g := am_in 1003 (by decide +kernel) rfl
set_option maxRecDepth 100000 in
theorem Vs_Tray_at : Cond.selects M_Tray_at.1.cls M_Tray_at.1 M_Tray_at.1 ∈ lw_g := am_in 1004 (by decide +kernel) rfl
set_option maxRecDepth 100000 in
theorem Y_State_doDeed : am_Y M_State_doDeed 2 := ⟨am_in 1009 (by decide +kernel) rfl, In_State, ⟨by decide, by decide⟩, by decide +kernel, by decide⟩
set_option maxRecDepth 100000 in
theorem Vi_State_doDeed : Cond.instanceMethod M_State_doDeed.1 ∈ lw_g := am_in 1007 (by decide +kernel) rfl
set_option maxRecDepth 100000 in
theorem Vs_State_doDeed : Cond.selects M_State_doDeed.1.cls M_State_doDeed.1 M_State_doDeed.1 ∈ lw_g := am_in 1008 (by decide +kernel) rfl
set_option maxRecDepth 100000 in
theorem Y_State_tellAct : am_Y M_State_tellAct 3 := ⟨am_in 1016 (by decide +kernel) rfl, In_State, ⟨by decide, by decide⟩, by decide +kernel, by decide⟩
set_option maxRecDepth 100000 in
theorem Vi_State_tellAct : Cond.instanceMethod M_State_tellAct.1 ∈ lw_g := am_in 1015 (by decide +kernel) rfl
set_option maxRecDepth 100000 in
theorem Vs_State_tellAct : Cond.selects M_State_tellAct.1.cls M_State_tellAct.1 M_State_tellAct.1 ∈ lw_g := am_in 25 (by decide +kernel) rfl
set_option maxRecDepth 100000 in
theorem Y_State_tellWeek : am_Y M_State_tellWeek 3 := ⟨am_in 1022 (by decide +kernel) rfl, In_State, ⟨by decide, by decide⟩, by decide +kernel, by decide⟩
set_option maxRecDepth 100000 in
theorem Vi_State_tellWeek : Cond.instanceMethod M_State_tellWeek.1 ∈ lw_g := am_in 1021 (by decide +kernel) rfl
set_option maxRecDepth 100000 in
theorem Vs_State_tellWeek : Cond.selects M_State_tellWeek.1.cls M_State_tellWeek.1 M_State_tellWeek.1 ∈ lw_g := am_in 26 (by decide +kernel) rfl
set_option maxRecDepth 100000 in
theorem Y_Top_perform : am_Y M_Top_perform 1 := ⟨am_in 1032 (by decide +kernel) rfl, In_Top, ⟨by decide, by decide⟩, by decide +kernel, by decide⟩
set_option maxRecDepth 100000 in
theorem Vi_Top_perform : Cond.instanceMethod M_Top_perform.1 ∈ lw_g := am_in 1030 (by decide +kernel) rfl
set_option maxRecDepth 100000 in
theorem Vs_Top_perform : Cond.selects M_Top_perform.1.cls M_Top_perform.1 M_Top_perform.1 ∈ lw_g := am_in 1031 (by decide +kernel) rfl
set_option maxRecDepth 100000 in
theorem Y_Top_becomeTrial : am_Y M_Top_becomeTrial 1 := ⟨am_in 1036 (by decide +kernel) rfl, In_Top, ⟨by decide, by decide⟩, by decide +kernel, by decide⟩
set_option maxRecDepth 100000 in
theorem Vi_Top_becomeTrial : Cond.instanceMethod M_Top_becomeTrial.1 ∈ lw_g := am_in 1035 (by decide +kernel) rfl
set_option maxRecDepth 100000 in
theorem Vs_Top_becomeTrial : Cond.selects M_Top_becomeTrial.1.cls M_Top_becomeTrial.1 M_Top_becomeTrial.1 ∈ lw_g := am_in 27 (by decide +kernel) rfl
set_option maxRecDepth 100000 in
theorem Y_Top_year : am_Y M_Top_year 2 := ⟨am_in 1040 (by decide +kernel) rfl, In_Top, ⟨by decide, by decide⟩, by decide +kernel, by decide⟩
set_option maxRecDepth 100000 in
theorem Vi_Top_year : Cond.instanceMethod M_Top_year.1 ∈ lw_g := am_in 1038 (by decide +kernel) rfl
set_option maxRecDepth 100000 in
theorem Vs_Top_year : Cond.selects M_Top_year.1.cls M_Top_year.1 M_Top_year.1 ∈ lw_g := am_in 1039 (by decide +kernel) rfl
set_option maxRecDepth 100000 in
theorem Y_State_doYear : am_Y M_State_doYear 3 := ⟨am_in 1044 (by decide +kernel) rfl, In_State, ⟨by decide, by decide⟩, by decide +kernel, by decide⟩
set_option maxRecDepth 100000 in
theorem Vi_State_doYear : Cond.instanceMethod M_State_doYear.1 ∈ lw_g := am_in 1042 (by decide +kernel) rfl
set_option maxRecDepth 100000 in
theorem Vs_State_doYear : Cond.selects M_State_doYear.1.cls M_State_doYear.1 M_State_doYear.1 ∈ lw_g := am_in 1043 (by decide +kernel) rfl
set_option maxRecDepth 100000 in
theorem Y_State_drawn : am_Y M_State_drawn 1 := ⟨am_in 1047 (by decide +kernel) rfl, In_State, ⟨by decide, by decide⟩, by decide +kernel, by decide⟩
set_option maxRecDepth 100000 in
theorem St_State_drawn : Cond.static M_State_drawn.1 ∈ lw_g := am_in 1046 (by decide +kernel) rfl
set_option maxRecDepth 100000 in
theorem Y_Top_soonest : am_Y M_Top_soonest 2 := ⟨am_in 1052 (by decide +kernel) rfl, In_Top, ⟨by decide, by decide⟩, by decide +kernel, by decide⟩
set_option maxRecDepth 100000 in
theorem Vi_Top_soonest : Cond.instanceMethod M_Top_soonest.1 ∈ lw_g := am_in 1050 (by decide +kernel) rfl
set_option maxRecDepth 100000 in
theorem Vs_Top_soonest : Cond.selects M_Top_soonest.1.cls M_Top_soonest.1 M_Top_soonest.1 ∈ lw_g := am_in 1051 (by decide +kernel) rfl
set_option maxRecDepth 100000 in
theorem Y_River_hasSpot : am_Y M_River_hasSpot 1 := ⟨am_in 1056 (by decide +kernel) rfl, In_River, ⟨by decide, by decide⟩, by decide +kernel, by decide⟩
set_option maxRecDepth 100000 in
theorem Vi_River_hasSpot : Cond.instanceMethod M_River_hasSpot.1 ∈ lw_g := am_in 1054 (by decide +kernel) rfl
set_option maxRecDepth 100000 in
theorem Vs_River_hasSpot : Cond.selects M_River_hasSpot.1.cls M_River_hasSpot.1 M_River_hasSpot.1 ∈ lw_g := am_in 1055 (by decide +kernel) rfl
set_option maxRecDepth 100000 in
theorem Y_Ahead_hoursTo : am_Y M_Ahead_hoursTo 2 := ⟨am_in 1060 (by decide +kernel) rfl, In_Ahead, ⟨by decide, by decide⟩, by decide +kernel, by decide⟩
set_option maxRecDepth 100000 in
theorem Vi_Ahead_hoursTo : Cond.instanceMethod M_Ahead_hoursTo.1 ∈ lw_g := am_in 1058 (by decide +kernel) rfl
set_option maxRecDepth 100000 in
theorem Vs_Ahead_hoursTo : Cond.selects M_Ahead_hoursTo.1.cls M_Ahead_hoursTo.1 M_Ahead_hoursTo.1 ∈ lw_g := am_in 1059 (by decide +kernel) rfl
set_option maxRecDepth 100000 in
theorem Y_Ahead_hoursFrom : am_Y M_Ahead_hoursFrom 6 := ⟨am_in 1064 (by decide +kernel) rfl, In_Ahead, ⟨by decide, by decide⟩, by decide +kernel, by decide⟩
set_option maxRecDepth 100000 in
theorem Vi_Ahead_hoursFrom : Cond.instanceMethod M_Ahead_hoursFrom.1 ∈ lw_g := am_in 1062 (by decide +kernel) rfl
set_option maxRecDepth 100000 in
theorem Vs_Ahead_hoursFrom : Cond.selects M_Ahead_hoursFrom.1.cls M_Ahead_hoursFrom.1 M_Ahead_hoursFrom.1 ∈ lw_g := am_in 1063 (by decide +kernel) rfl
set_option maxRecDepth 100000 in
theorem Y_River_spread : am_Y M_River_spread 3 := ⟨am_in 1070 (by decide +kernel) rfl, In_River, ⟨by decide, by decide⟩, by decide +kernel, by decide⟩
set_option maxRecDepth 100000 in
theorem Vi_River_spread : Cond.instanceMethod M_River_spread.1 ∈ lw_g := am_in 1068 (by decide +kernel) rfl
set_option maxRecDepth 100000 in
theorem Vs_River_spread : Cond.selects M_River_spread.1.cls M_River_spread.1 M_River_spread.1 ∈ lw_g := am_in 1069 (by decide +kernel) rfl
set_option maxRecDepth 100000 in
theorem Y_River_joined : am_Y M_River_joined 3 := ⟨am_in 1074 (by decide +kernel) rfl, In_River, ⟨by decide, by decide⟩, by decide +kernel, by decide⟩
set_option maxRecDepth 100000 in
theorem Vi_River_joined : Cond.instanceMethod M_River_joined.1 ∈ lw_g := am_in 1073 (by decide +kernel) rfl
set_option maxRecDepth 100000 in
theorem Vs_River_joined : Cond.selects M_River_joined.1.cls M_River_joined.1 M_River_joined.1 ∈ lw_g := am_in 28 (by decide +kernel) rfl
set_option maxRecDepth 100000 in
theorem Y_Top_way : am_Y M_Top_way 3 := ⟨am_in 1078 (by decide +kernel) rfl, In_Top, ⟨by decide, by decide⟩, by decide +kernel, by decide⟩
set_option maxRecDepth 100000 in
theorem Vi_Top_way : Cond.instanceMethod M_Top_way.1 ∈ lw_g := am_in 1076 (by decide +kernel) rfl
set_option maxRecDepth 100000 in
theorem Vs_Top_way : Cond.selects M_Top_way.1.cls M_Top_way.1 M_Top_way.1 ∈ lw_g := am_in 1077 (by decide +kernel) rfl
set_option maxRecDepth 100000 in
theorem Y_Ahead_findWay : am_Y M_Ahead_findWay 2 := ⟨am_in 1082 (by decide +kernel) rfl, In_Ahead, ⟨by decide, by decide⟩, by decide +kernel, by decide⟩
set_option maxRecDepth 100000 in
theorem Vi_Ahead_findWay : Cond.instanceMethod M_Ahead_findWay.1 ∈ lw_g := am_in 1080 (by decide +kernel) rfl
set_option maxRecDepth 100000 in
theorem Vs_Ahead_findWay : Cond.selects M_Ahead_findWay.1.cls M_Ahead_findWay.1 M_Ahead_findWay.1 ∈ lw_g := am_in 1081 (by decide +kernel) rfl
set_option maxRecDepth 100000 in
theorem Y_Ahead_rowIn : am_Y M_Ahead_rowIn 2 := ⟨am_in 1087 (by decide +kernel) rfl, In_Ahead, ⟨by decide, by decide⟩, by decide +kernel, by decide⟩
set_option maxRecDepth 100000 in
theorem Vi_Ahead_rowIn : Cond.instanceMethod M_Ahead_rowIn.1 ∈ lw_g := am_in 1085 (by decide +kernel) rfl
set_option maxRecDepth 100000 in
theorem Vs_Ahead_rowIn : Cond.selects M_Ahead_rowIn.1.cls M_Ahead_rowIn.1 M_Ahead_rowIn.1 ∈ lw_g := am_in 1086 (by decide +kernel) rfl
set_option maxRecDepth 100000 in
theorem Y_Ahead_liesIn : am_Y M_Ahead_liesIn 1 := ⟨am_in 1091 (by decide +kernel) rfl, In_Ahead, ⟨by decide, by decide⟩, by decide +kernel, by decide⟩
set_option maxRecDepth 100000 in
theorem Vi_Ahead_liesIn : Cond.instanceMethod M_Ahead_liesIn.1 ∈ lw_g := am_in 1089 (by decide +kernel) rfl
set_option maxRecDepth 100000 in
theorem Vs_Ahead_liesIn : Cond.selects M_Ahead_liesIn.1.cls M_Ahead_liesIn.1 M_Ahead_liesIn.1 ∈ lw_g := am_in 1090 (by decide +kernel) rfl
set_option maxRecDepth 100000 in
theorem Y_River_gather : am_Y M_River_gather 3 := ⟨am_in 1095 (by decide +kernel) rfl, In_River, ⟨by decide, by decide⟩, by decide +kernel, by decide⟩
set_option maxRecDepth 100000 in
theorem Vi_River_gather : Cond.instanceMethod M_River_gather.1 ∈ lw_g := am_in 1093 (by decide +kernel) rfl
set_option maxRecDepth 100000 in
theorem Vs_River_gather : Cond.selects M_River_gather.1.cls M_River_gather.1 M_River_gather.1 ∈ lw_g := am_in 1094 (by decide +kernel) rfl
set_option maxRecDepth 100000 in
theorem Y_Ahead_firstActInto : am_Y M_Ahead_firstActInto 4 := ⟨am_in 1099 (by decide +kernel) rfl, In_Ahead, ⟨by decide, by decide⟩, by decide +kernel, by decide⟩
set_option maxRecDepth 100000 in
theorem Vi_Ahead_firstActInto : Cond.instanceMethod M_Ahead_firstActInto.1 ∈ lw_g := am_in 1098 (by decide +kernel) rfl
set_option maxRecDepth 100000 in
theorem Vs_Ahead_firstActInto : Cond.selects M_Ahead_firstActInto.1.cls M_Ahead_firstActInto.1 M_Ahead_firstActInto.1 ∈ lw_g := am_in 29 (by decide +kernel) rfl
set_option maxRecDepth 100000 in
theorem Y_Ahead_actAt : am_Y M_Ahead_actAt 1 := ⟨am_in 1106 (by decide +kernel) rfl, In_Ahead, ⟨by decide, by decide⟩, by decide +kernel, by decide⟩
set_option maxRecDepth 100000 in
theorem Vi_Ahead_actAt : Cond.instanceMethod M_Ahead_actAt.1 ∈ lw_g := am_in 1104 (by decide +kernel) rfl
set_option maxRecDepth 100000 in
theorem Vs_Ahead_actAt : Cond.selects M_Ahead_actAt.1.cls M_Ahead_actAt.1 M_Ahead_actAt.1 ∈ lw_g := am_in 1105 (by decide +kernel) rfl
set_option maxRecDepth 100000 in
theorem Y_Top_ways : am_Y M_Top_ways 3 := ⟨am_in 1110 (by decide +kernel) rfl, In_Top, ⟨by decide, by decide⟩, by decide +kernel, by decide⟩
set_option maxRecDepth 100000 in
theorem Vi_Top_ways : Cond.instanceMethod M_Top_ways.1 ∈ lw_g := am_in 1108 (by decide +kernel) rfl
set_option maxRecDepth 100000 in
theorem Vs_Top_ways : Cond.selects M_Top_ways.1.cls M_Top_ways.1 M_Top_ways.1 ∈ lw_g := am_in 1109 (by decide +kernel) rfl
set_option maxRecDepth 100000 in
theorem Y_Ahead_countWays : am_Y M_Ahead_countWays 3 := ⟨am_in 1116 (by decide +kernel) rfl, In_Ahead, ⟨by decide, by decide⟩, by decide +kernel, by decide⟩
set_option maxRecDepth 100000 in
theorem Vi_Ahead_countWays : Cond.instanceMethod M_Ahead_countWays.1 ∈ lw_g := am_in 1114 (by decide +kernel) rfl
set_option maxRecDepth 100000 in
theorem Vs_Ahead_countWays : Cond.selects M_Ahead_countWays.1.cls M_Ahead_countWays.1 M_Ahead_countWays.1 ∈ lw_g := am_in 1115 (by decide +kernel) rfl
set_option maxRecDepth 100000 in
theorem Y_Arrays_fill_JJV : am_Y M_Arrays_fill_JJV 2 := ⟨am_in 1119 (by decide +kernel) rfl, In_Arrays, ⟨by decide, by decide⟩, by decide +kernel, by decide⟩
set_option maxRecDepth 100000 in
theorem St_Arrays_fill_JJV : Cond.static M_Arrays_fill_JJV.1 ∈ lw_g := am_in 1118 (by decide +kernel) rfl
set_option maxRecDepth 100000 in
theorem Y_Ahead_spreadCount : am_Y M_Ahead_spreadCount 3 := ⟨am_in 1123 (by decide +kernel) rfl, In_Ahead, ⟨by decide, by decide⟩, by decide +kernel, by decide⟩
set_option maxRecDepth 100000 in
theorem Vi_Ahead_spreadCount : Cond.instanceMethod M_Ahead_spreadCount.1 ∈ lw_g := am_in 1122 (by decide +kernel) rfl
set_option maxRecDepth 100000 in
theorem Vs_Ahead_spreadCount : Cond.selects M_Ahead_spreadCount.1.cls M_Ahead_spreadCount.1 M_Ahead_spreadCount.1 ∈ lw_g := am_in 30 (by decide +kernel) rfl
set_option maxRecDepth 100000 in
theorem Y_Top_reach : am_Y M_Top_reach 2 := ⟨am_in 1127 (by decide +kernel) rfl, In_Top, ⟨by decide, by decide⟩, by decide +kernel, by decide⟩
set_option maxRecDepth 100000 in
theorem Vi_Top_reach : Cond.instanceMethod M_Top_reach.1 ∈ lw_g := am_in 1125 (by decide +kernel) rfl
set_option maxRecDepth 100000 in
theorem Vs_Top_reach : Cond.selects M_Top_reach.1.cls M_Top_reach.1 M_Top_reach.1 ∈ lw_g := am_in 1126 (by decide +kernel) rfl
set_option maxRecDepth 100000 in
theorem Y_Ahead_spotsIn : am_Y M_Ahead_spotsIn 2 := ⟨am_in 1131 (by decide +kernel) rfl, In_Ahead, ⟨by decide, by decide⟩, by decide +kernel, by decide⟩
set_option maxRecDepth 100000 in
theorem Vi_Ahead_spotsIn : Cond.instanceMethod M_Ahead_spotsIn.1 ∈ lw_g := am_in 1129 (by decide +kernel) rfl
set_option maxRecDepth 100000 in
theorem Vs_Ahead_spotsIn : Cond.selects M_Ahead_spotsIn.1.cls M_Ahead_spotsIn.1 M_Ahead_spotsIn.1 ∈ lw_g := am_in 1130 (by decide +kernel) rfl
set_option maxRecDepth 100000 in
theorem Y_Top_meet : am_Y M_Top_meet 2 := ⟨am_in 1135 (by decide +kernel) rfl, In_Top, ⟨by decide, by decide⟩, by decide +kernel, by decide⟩
set_option maxRecDepth 100000 in
theorem Vi_Top_meet : Cond.instanceMethod M_Top_meet.1 ∈ lw_g := am_in 1133 (by decide +kernel) rfl
set_option maxRecDepth 100000 in
theorem Vs_Top_meet : Cond.selects M_Top_meet.1.cls M_Top_meet.1 M_Top_meet.1 ∈ lw_g := am_in 1134 (by decide +kernel) rfl
set_option maxRecDepth 100000 in
theorem Y_Ahead_hoursToMeet : am_Y M_Ahead_hoursToMeet 2 := ⟨am_in 1139 (by decide +kernel) rfl, In_Ahead, ⟨by decide, by decide⟩, by decide +kernel, by decide⟩
set_option maxRecDepth 100000 in
theorem Vi_Ahead_hoursToMeet : Cond.instanceMethod M_Ahead_hoursToMeet.1 ∈ lw_g := am_in 1137 (by decide +kernel) rfl
set_option maxRecDepth 100000 in
theorem Vs_Ahead_hoursToMeet : Cond.selects M_Ahead_hoursToMeet.1.cls M_Ahead_hoursToMeet.1 M_Ahead_hoursToMeet.1 ∈ lw_g := am_in 1138 (by decide +kernel) rfl
set_option maxRecDepth 100000 in
theorem Y_Top_meetAt : am_Y M_Top_meetAt 2 := ⟨am_in 1143 (by decide +kernel) rfl, In_Top, ⟨by decide, by decide⟩, by decide +kernel, by decide⟩
set_option maxRecDepth 100000 in
theorem Vi_Top_meetAt : Cond.instanceMethod M_Top_meetAt.1 ∈ lw_g := am_in 1141 (by decide +kernel) rfl
set_option maxRecDepth 100000 in
theorem Vs_Top_meetAt : Cond.selects M_Top_meetAt.1.cls M_Top_meetAt.1 M_Top_meetAt.1 ∈ lw_g := am_in 1142 (by decide +kernel) rfl
set_option maxRecDepth 100000 in
theorem Y_Integer_numberOfTrailingZeros : am_Y M_Integer_numberOfTrailingZeros 1 := ⟨am_in 1146 (by decide +kernel) rfl, In_Integer, ⟨by decide, by decide⟩, by decide +kernel, by decide⟩
set_option maxRecDepth 100000 in
theorem St_Integer_numberOfTrailingZeros : Cond.static M_Integer_numberOfTrailingZeros.1 ∈ lw_g := am_in 1145 (by decide +kernel) rfl
set_option maxRecDepth 100000 in
theorem Y_Top_inTime : am_Y M_Top_inTime 0 := ⟨am_in 1151 (by decide +kernel) rfl, In_Top, ⟨by decide, by decide⟩, by decide +kernel, by decide⟩
set_option maxRecDepth 100000 in
theorem Vi_Top_inTime : Cond.instanceMethod M_Top_inTime.1 ∈ lw_g := am_in 1149 (by decide +kernel) rfl
set_option maxRecDepth 100000 in
theorem Vs_Top_inTime : Cond.selects M_Top_inTime.1.cls M_Top_inTime.1 M_Top_inTime.1 ∈ lw_g := am_in 1150 (by decide +kernel) rfl
set_option maxRecDepth 100000 in
theorem Y_Weeks_doneInTime : am_Y M_Weeks_doneInTime 1 := ⟨am_in 1155 (by decide +kernel) rfl, In_Weeks, ⟨by decide, by decide⟩, by decide +kernel, by decide⟩
set_option maxRecDepth 100000 in
theorem Vi_Weeks_doneInTime : Cond.instanceMethod M_Weeks_doneInTime.1 ∈ lw_g := am_in 1153 (by decide +kernel) rfl
set_option maxRecDepth 100000 in
theorem Vs_Weeks_doneInTime : Cond.selects M_Weeks_doneInTime.1.cls M_Weeks_doneInTime.1 M_Weeks_doneInTime.1 ∈ lw_g := am_in 1154 (by decide +kernel) rfl
set_option maxRecDepth 100000 in
theorem Y_Weeks_hasErrand : am_Y M_Weeks_hasErrand 1 := ⟨am_in 1159 (by decide +kernel) rfl, In_Weeks, ⟨by decide, by decide⟩, by decide +kernel, by decide⟩
set_option maxRecDepth 100000 in
theorem Vi_Weeks_hasErrand : Cond.instanceMethod M_Weeks_hasErrand.1 ∈ lw_g := am_in 1158 (by decide +kernel) rfl
set_option maxRecDepth 100000 in
theorem Vs_Weeks_hasErrand : Cond.selects M_Weeks_hasErrand.1.cls M_Weeks_hasErrand.1 M_Weeks_hasErrand.1 ∈ lw_g := am_in 31 (by decide +kernel) rfl
set_option maxRecDepth 100000 in
theorem Y_Weeks_isDone : am_Y M_Weeks_isDone 1 := ⟨am_in 1163 (by decide +kernel) rfl, In_Weeks, ⟨by decide, by decide⟩, by decide +kernel, by decide⟩
set_option maxRecDepth 100000 in
theorem Vi_Weeks_isDone : Cond.instanceMethod M_Weeks_isDone.1 ∈ lw_g := am_in 1162 (by decide +kernel) rfl
set_option maxRecDepth 100000 in
theorem Vs_Weeks_isDone : Cond.selects M_Weeks_isDone.1.cls M_Weeks_isDone.1 M_Weeks_isDone.1 ∈ lw_g := am_in 32 (by decide +kernel) rfl
set_option maxRecDepth 100000 in
theorem Y_Weeks_comes : am_Y M_Weeks_comes 2 := ⟨am_in 1168 (by decide +kernel) rfl, In_Weeks, ⟨by decide, by decide⟩, by decide +kernel, by decide⟩
set_option maxRecDepth 100000 in
theorem Vi_Weeks_comes : Cond.instanceMethod M_Weeks_comes.1 ∈ lw_g := am_in 1167 (by decide +kernel) rfl
set_option maxRecDepth 100000 in
theorem Vs_Weeks_comes : Cond.selects M_Weeks_comes.1.cls M_Weeks_comes.1 M_Weeks_comes.1 ∈ lw_g := am_in 33 (by decide +kernel) rfl
set_option maxRecDepth 100000 in
theorem Y_Weeks_hoursLeft : am_Y M_Weeks_hoursLeft 1 := ⟨am_in 1172 (by decide +kernel) rfl, In_Weeks, ⟨by decide, by decide⟩, by decide +kernel, by decide⟩
set_option maxRecDepth 100000 in
theorem Vi_Weeks_hoursLeft : Cond.instanceMethod M_Weeks_hoursLeft.1 ∈ lw_g := am_in 1171 (by decide +kernel) rfl
set_option maxRecDepth 100000 in
theorem Vs_Weeks_hoursLeft : Cond.selects M_Weeks_hoursLeft.1.cls M_Weeks_hoursLeft.1 M_Weeks_hoursLeft.1 ∈ lw_g := am_in 34 (by decide +kernel) rfl
set_option maxRecDepth 100000 in
theorem Y_Top_spare : am_Y M_Top_spare 1 := ⟨am_in 1178 (by decide +kernel) rfl, In_Top, ⟨by decide, by decide⟩, by decide +kernel, by decide⟩
set_option maxRecDepth 100000 in
theorem Vi_Top_spare : Cond.instanceMethod M_Top_spare.1 ∈ lw_g := am_in 1176 (by decide +kernel) rfl
set_option maxRecDepth 100000 in
theorem Vs_Top_spare : Cond.selects M_Top_spare.1.cls M_Top_spare.1 M_Top_spare.1 ∈ lw_g := am_in 1177 (by decide +kernel) rfl
set_option maxRecDepth 100000 in
theorem Y_Weeks_hoursToSpare : am_Y M_Weeks_hoursToSpare 1 := ⟨am_in 1182 (by decide +kernel) rfl, In_Weeks, ⟨by decide, by decide⟩, by decide +kernel, by decide⟩
set_option maxRecDepth 100000 in
theorem Vi_Weeks_hoursToSpare : Cond.instanceMethod M_Weeks_hoursToSpare.1 ∈ lw_g := am_in 1180 (by decide +kernel) rfl
set_option maxRecDepth 100000 in
theorem Vs_Weeks_hoursToSpare : Cond.selects M_Weeks_hoursToSpare.1.cls M_Weeks_hoursToSpare.1 M_Weeks_hoursToSpare.1 ∈ lw_g := am_in 1181 (by decide +kernel) rfl
set_option maxRecDepth 100000 in
theorem Y_Top_needs : am_Y M_Top_needs 1 := ⟨am_in 1186 (by decide +kernel) rfl, In_Top, ⟨by decide, by decide⟩, by decide +kernel, by decide⟩
set_option maxRecDepth 100000 in
theorem Vi_Top_needs : Cond.instanceMethod M_Top_needs.1 ∈ lw_g := am_in 1184 (by decide +kernel) rfl
set_option maxRecDepth 100000 in
theorem Vs_Top_needs : Cond.selects M_Top_needs.1.cls M_Top_needs.1 M_Top_needs.1 ∈ lw_g := am_in 1185 (by decide +kernel) rfl
set_option maxRecDepth 100000 in
theorem Y_Weeks_hoursNeeded : am_Y M_Weeks_hoursNeeded 1 := ⟨am_in 1190 (by decide +kernel) rfl, In_Weeks, ⟨by decide, by decide⟩, by decide +kernel, by decide⟩
set_option maxRecDepth 100000 in
theorem Vi_Weeks_hoursNeeded : Cond.instanceMethod M_Weeks_hoursNeeded.1 ∈ lw_g := am_in 1188 (by decide +kernel) rfl
set_option maxRecDepth 100000 in
theorem Vs_Weeks_hoursNeeded : Cond.selects M_Weeks_hoursNeeded.1.cls M_Weeks_hoursNeeded.1 M_Weeks_hoursNeeded.1 ∈ lw_g := am_in 1189 (by decide +kernel) rfl
set_option maxRecDepth 100000 in
theorem Y_Weeks_takeWeek : am_Y M_Weeks_takeWeek 0 := ⟨am_in 1194 (by decide +kernel) rfl, In_Weeks, ⟨by decide, by decide⟩, by decide +kernel, by decide⟩
set_option maxRecDepth 100000 in
theorem Vi_Weeks_takeWeek : Cond.instanceMethod M_Weeks_takeWeek.1 ∈ lw_g := am_in 1193 (by decide +kernel) rfl
set_option maxRecDepth 100000 in
theorem Vs_Weeks_takeWeek : Cond.selects M_Weeks_takeWeek.1.cls M_Weeks_takeWeek.1 M_Weeks_takeWeek.1 ∈ lw_g := am_in 35 (by decide +kernel) rfl
set_option maxRecDepth 100000 in
theorem Y_Top_moves : am_Y M_Top_moves 0 := ⟨am_in 1199 (by decide +kernel) rfl, In_Top, ⟨by decide, by decide⟩, by decide +kernel, by decide⟩
set_option maxRecDepth 100000 in
theorem Vi_Top_moves : Cond.instanceMethod M_Top_moves.1 ∈ lw_g := am_in 1197 (by decide +kernel) rfl
set_option maxRecDepth 100000 in
theorem Vs_Top_moves : Cond.selects M_Top_moves.1.cls M_Top_moves.1 M_Top_moves.1 ∈ lw_g := am_in 1198 (by decide +kernel) rfl
set_option maxRecDepth 100000 in
theorem Y_Weeks_movesOf : am_Y M_Weeks_movesOf 1 := ⟨am_in 1203 (by decide +kernel) rfl, In_Weeks, ⟨by decide, by decide⟩, by decide +kernel, by decide⟩
set_option maxRecDepth 100000 in
theorem Vi_Weeks_movesOf : Cond.instanceMethod M_Weeks_movesOf.1 ∈ lw_g := am_in 1201 (by decide +kernel) rfl
set_option maxRecDepth 100000 in
theorem Vs_Weeks_movesOf : Cond.selects M_Weeks_movesOf.1.cls M_Weeks_movesOf.1 M_Weeks_movesOf.1 ∈ lw_g := am_in 1202 (by decide +kernel) rfl
set_option maxRecDepth 100000 in
theorem Y_Top_best : am_Y M_Top_best 1 := ⟨am_in 1207 (by decide +kernel) rfl, In_Top, ⟨by decide, by decide⟩, by decide +kernel, by decide⟩
set_option maxRecDepth 100000 in
theorem Vi_Top_best : Cond.instanceMethod M_Top_best.1 ∈ lw_g := am_in 1205 (by decide +kernel) rfl
set_option maxRecDepth 100000 in
theorem Vs_Top_best : Cond.selects M_Top_best.1.cls M_Top_best.1 M_Top_best.1 ∈ lw_g := am_in 1206 (by decide +kernel) rfl
set_option maxRecDepth 100000 in
theorem Y_Weeks_findBest : am_Y M_Weeks_findBest 0 := ⟨am_in 1211 (by decide +kernel) rfl, In_Weeks, ⟨by decide, by decide⟩, by decide +kernel, by decide⟩
set_option maxRecDepth 100000 in
theorem Vi_Weeks_findBest : Cond.instanceMethod M_Weeks_findBest.1 ∈ lw_g := am_in 1209 (by decide +kernel) rfl
set_option maxRecDepth 100000 in
theorem Vs_Weeks_findBest : Cond.selects M_Weeks_findBest.1.cls M_Weeks_findBest.1 M_Weeks_findBest.1 ∈ lw_g := am_in 1210 (by decide +kernel) rfl
set_option maxRecDepth 100000 in
theorem Y_Weeks_sortPeople : am_Y M_Weeks_sortPeople 0 := ⟨am_in 1215 (by decide +kernel) rfl, In_Weeks, ⟨by decide, by decide⟩, by decide +kernel, by decide⟩
set_option maxRecDepth 100000 in
theorem Vi_Weeks_sortPeople : Cond.instanceMethod M_Weeks_sortPeople.1 ∈ lw_g := am_in 1214 (by decide +kernel) rfl
set_option maxRecDepth 100000 in
theorem Vs_Weeks_sortPeople : Cond.selects M_Weeks_sortPeople.1.cls M_Weeks_sortPeople.1 M_Weeks_sortPeople.1 ∈ lw_g := am_in 36 (by decide +kernel) rfl
set_option maxRecDepth 100000 in
theorem Y_Weeks_comesByAll : am_Y M_Weeks_comesByAll 1 := ⟨am_in 1220 (by decide +kernel) rfl, In_Weeks, ⟨by decide, by decide⟩, by decide +kernel, by decide⟩
set_option maxRecDepth 100000 in
theorem Vi_Weeks_comesByAll : Cond.instanceMethod M_Weeks_comesByAll.1 ∈ lw_g := am_in 1219 (by decide +kernel) rfl
set_option maxRecDepth 100000 in
theorem Vs_Weeks_comesByAll : Cond.selects M_Weeks_comesByAll.1.cls M_Weeks_comesByAll.1 M_Weeks_comesByAll.1 ∈ lw_g := am_in 37 (by decide +kernel) rfl
set_option maxRecDepth 100000 in
theorem Y_Weeks_weigh : am_Y M_Weeks_weigh 1 := ⟨am_in 1226 (by decide +kernel) rfl, In_Weeks, ⟨by decide, by decide⟩, by decide +kernel, by decide⟩
set_option maxRecDepth 100000 in
theorem Vi_Weeks_weigh : Cond.instanceMethod M_Weeks_weigh.1 ∈ lw_g := am_in 1225 (by decide +kernel) rfl
set_option maxRecDepth 100000 in
theorem Vs_Weeks_weigh : Cond.selects M_Weeks_weigh.1.cls M_Weeks_weigh.1 M_Weeks_weigh.1 ∈ lw_g := am_in 38 (by decide +kernel) rfl
set_option maxRecDepth 100000 in
theorem Y_Weeks_openComes : am_Y M_Weeks_openComes 2 := ⟨am_in 1230 (by decide +kernel) rfl, In_Weeks, ⟨by decide, by decide⟩, by decide +kernel, by decide⟩
set_option maxRecDepth 100000 in
theorem Vi_Weeks_openComes : Cond.instanceMethod M_Weeks_openComes.1 ∈ lw_g := am_in 1229 (by decide +kernel) rfl
set_option maxRecDepth 100000 in
theorem Vs_Weeks_openComes : Cond.selects M_Weeks_openComes.1.cls M_Weeks_openComes.1 M_Weeks_openComes.1 ∈ lw_g := am_in 39 (by decide +kernel) rfl
set_option maxRecDepth 100000 in
theorem Y_Weeks_keepBetter : am_Y M_Weeks_keepBetter 2 := ⟨am_in 1235 (by decide +kernel) rfl, In_Weeks, ⟨by decide, by decide⟩, by decide +kernel, by decide⟩
set_option maxRecDepth 100000 in
theorem Vi_Weeks_keepBetter : Cond.instanceMethod M_Weeks_keepBetter.1 ∈ lw_g := am_in 1234 (by decide +kernel) rfl
set_option maxRecDepth 100000 in
theorem Vs_Weeks_keepBetter : Cond.selects M_Weeks_keepBetter.1.cls M_Weeks_keepBetter.1 M_Weeks_keepBetter.1 ∈ lw_g := am_in 40 (by decide +kernel) rfl
set_option maxRecDepth 100000 in
theorem Y_Weeks_trialIsFirst : am_Y M_Weeks_trialIsFirst 0 := ⟨am_in 1239 (by decide +kernel) rfl, In_Weeks, ⟨by decide, by decide⟩, by decide +kernel, by decide⟩
set_option maxRecDepth 100000 in
theorem Vi_Weeks_trialIsFirst : Cond.instanceMethod M_Weeks_trialIsFirst.1 ∈ lw_g := am_in 1238 (by decide +kernel) rfl
set_option maxRecDepth 100000 in
theorem Vs_Weeks_trialIsFirst : Cond.selects M_Weeks_trialIsFirst.1.cls M_Weeks_trialIsFirst.1 M_Weeks_trialIsFirst.1 ∈ lw_g := am_in 41 (by decide +kernel) rfl
set_option maxRecDepth 100000 in
theorem Y_Weeks_tryBest : am_Y M_Weeks_tryBest 1 := ⟨am_in 1243 (by decide +kernel) rfl, In_Weeks, ⟨by decide, by decide⟩, by decide +kernel, by decide⟩
set_option maxRecDepth 100000 in
theorem Vi_Weeks_tryBest : Cond.instanceMethod M_Weeks_tryBest.1 ∈ lw_g := am_in 1242 (by decide +kernel) rfl
set_option maxRecDepth 100000 in
theorem Vs_Weeks_tryBest : Cond.selects M_Weeks_tryBest.1.cls M_Weeks_tryBest.1 M_Weeks_tryBest.1 ∈ lw_g := am_in 42 (by decide +kernel) rfl
set_option maxRecDepth 100000 in
theorem Y_Weeks_lost : am_Y M_Weeks_lost 1 := ⟨am_in 1247 (by decide +kernel) rfl, In_Weeks, ⟨by decide, by decide⟩, by decide +kernel, by decide⟩
set_option maxRecDepth 100000 in
theorem Vi_Weeks_lost : Cond.instanceMethod M_Weeks_lost.1 ∈ lw_g := am_in 1246 (by decide +kernel) rfl
set_option maxRecDepth 100000 in
theorem Vs_Weeks_lost : Cond.selects M_Weeks_lost.1.cls M_Weeks_lost.1 M_Weeks_lost.1 ∈ lw_g := am_in 43 (by decide +kernel) rfl
set_option maxRecDepth 100000 in
theorem Y_Weeks_stepOpen : am_Y M_Weeks_stepOpen 2 := ⟨am_in 1252 (by decide +kernel) rfl, In_Weeks, ⟨by decide, by decide⟩, by decide +kernel, by decide⟩
set_option maxRecDepth 100000 in
theorem Vi_Weeks_stepOpen : Cond.instanceMethod M_Weeks_stepOpen.1 ∈ lw_g := am_in 1251 (by decide +kernel) rfl
set_option maxRecDepth 100000 in
theorem Vs_Weeks_stepOpen : Cond.selects M_Weeks_stepOpen.1.cls M_Weeks_stepOpen.1 M_Weeks_stepOpen.1 ∈ lw_g := am_in 44 (by decide +kernel) rfl
set_option maxRecDepth 100000 in
theorem Y_Top_change : am_Y M_Top_change 0 := ⟨am_in 1257 (by decide +kernel) rfl, In_Top, ⟨by decide, by decide⟩, by decide +kernel, by decide⟩
set_option maxRecDepth 100000 in
theorem Vi_Top_change : Cond.instanceMethod M_Top_change.1 ∈ lw_g := am_in 1255 (by decide +kernel) rfl
set_option maxRecDepth 100000 in
theorem Vs_Top_change : Cond.selects M_Top_change.1.cls M_Top_change.1 M_Top_change.1 ∈ lw_g := am_in 1256 (by decide +kernel) rfl
set_option maxRecDepth 100000 in
theorem Y_Weeks_bestChange : am_Y M_Weeks_bestChange 0 := ⟨am_in 1261 (by decide +kernel) rfl, In_Weeks, ⟨by decide, by decide⟩, by decide +kernel, by decide⟩
set_option maxRecDepth 100000 in
theorem Vi_Weeks_bestChange : Cond.instanceMethod M_Weeks_bestChange.1 ∈ lw_g := am_in 1259 (by decide +kernel) rfl
set_option maxRecDepth 100000 in
theorem Vs_Weeks_bestChange : Cond.selects M_Weeks_bestChange.1.cls M_Weeks_bestChange.1 M_Weeks_bestChange.1 ∈ lw_g := am_in 1260 (by decide +kernel) rfl
set_option maxRecDepth 100000 in
theorem Y_Weeks_choice : am_Y M_Weeks_choice 1 := ⟨am_in 1267 (by decide +kernel) rfl, In_Weeks, ⟨by decide, by decide⟩, by decide +kernel, by decide⟩
set_option maxRecDepth 100000 in
theorem Vi_Weeks_choice : Cond.instanceMethod M_Weeks_choice.1 ∈ lw_g := am_in 1266 (by decide +kernel) rfl
set_option maxRecDepth 100000 in
theorem Vs_Weeks_choice : Cond.selects M_Weeks_choice.1.cls M_Weeks_choice.1 M_Weeks_choice.1 ∈ lw_g := am_in 45 (by decide +kernel) rfl
set_option maxRecDepth 100000 in
theorem Y_Top_weeks : am_Y M_Top_weeks 0 := ⟨am_in 1271 (by decide +kernel) rfl, In_Top, ⟨by decide, by decide⟩, by decide +kernel, by decide⟩
set_option maxRecDepth 100000 in
theorem Vi_Top_weeks : Cond.instanceMethod M_Top_weeks.1 ∈ lw_g := am_in 1269 (by decide +kernel) rfl
set_option maxRecDepth 100000 in
theorem Vs_Top_weeks : Cond.selects M_Top_weeks.1.cls M_Top_weeks.1 M_Top_weeks.1 ∈ lw_g := am_in 1270 (by decide +kernel) rfl
set_option maxRecDepth 100000 in
theorem Y_Weeks_countGood : am_Y M_Weeks_countGood 0 := ⟨am_in 1275 (by decide +kernel) rfl, In_Weeks, ⟨by decide, by decide⟩, by decide +kernel, by decide⟩
set_option maxRecDepth 100000 in
theorem Vi_Weeks_countGood : Cond.instanceMethod M_Weeks_countGood.1 ∈ lw_g := am_in 1273 (by decide +kernel) rfl
set_option maxRecDepth 100000 in
theorem Vs_Weeks_countGood : Cond.selects M_Weeks_countGood.1.cls M_Weeks_countGood.1 M_Weeks_countGood.1 ∈ lw_g := am_in 1274 (by decide +kernel) rfl
set_option maxRecDepth 100000 in
theorem Y_Weeks_tryGood : am_Y M_Weeks_tryGood 1 := ⟨am_in 1279 (by decide +kernel) rfl, In_Weeks, ⟨by decide, by decide⟩, by decide +kernel, by decide⟩
set_option maxRecDepth 100000 in
theorem Vi_Weeks_tryGood : Cond.instanceMethod M_Weeks_tryGood.1 ∈ lw_g := am_in 1278 (by decide +kernel) rfl
set_option maxRecDepth 100000 in
theorem Vs_Weeks_tryGood : Cond.selects M_Weeks_tryGood.1.cls M_Weeks_tryGood.1 M_Weeks_tryGood.1 ∈ lw_g := am_in 46 (by decide +kernel) rfl
set_option maxRecDepth 100000 in
theorem Y_Weeks_allCome : am_Y M_Weeks_allCome 1 := ⟨am_in 1283 (by decide +kernel) rfl, In_Weeks, ⟨by decide, by decide⟩, by decide +kernel, by decide⟩
set_option maxRecDepth 100000 in
theorem Vi_Weeks_allCome : Cond.instanceMethod M_Weeks_allCome.1 ∈ lw_g := am_in 1282 (by decide +kernel) rfl
set_option maxRecDepth 100000 in
theorem Vs_Weeks_allCome : Cond.selects M_Weeks_allCome.1.cls M_Weeks_allCome.1 M_Weeks_allCome.1 ∈ lw_g := am_in 47 (by decide +kernel) rfl
set_option maxRecDepth 100000 in
theorem Y_Weeks_weeksOf : am_Y M_Weeks_weeksOf 1 := ⟨am_in 1287 (by decide +kernel) rfl, In_Weeks, ⟨by decide, by decide⟩, by decide +kernel, by decide⟩
set_option maxRecDepth 100000 in
theorem Vi_Weeks_weeksOf : Cond.instanceMethod M_Weeks_weeksOf.1 ∈ lw_g := am_in 1286 (by decide +kernel) rfl
set_option maxRecDepth 100000 in
theorem Vs_Weeks_weeksOf : Cond.selects M_Weeks_weeksOf.1.cls M_Weeks_weeksOf.1 M_Weeks_weeksOf.1 ∈ lw_g := am_in 48 (by decide +kernel) rfl
set_option maxRecDepth 100000 in
theorem Y_Top_shift : am_Y M_Top_shift 0 := ⟨am_in 1291 (by decide +kernel) rfl, In_Top, ⟨by decide, by decide⟩, by decide +kernel, by decide⟩
set_option maxRecDepth 100000 in
theorem Vi_Top_shift : Cond.instanceMethod M_Top_shift.1 ∈ lw_g := am_in 1289 (by decide +kernel) rfl
set_option maxRecDepth 100000 in
theorem Vs_Top_shift : Cond.selects M_Top_shift.1.cls M_Top_shift.1 M_Top_shift.1 ∈ lw_g := am_in 1290 (by decide +kernel) rfl
set_option maxRecDepth 100000 in
theorem Y_Weeks_bestShift : am_Y M_Weeks_bestShift 0 := ⟨am_in 1295 (by decide +kernel) rfl, In_Weeks, ⟨by decide, by decide⟩, by decide +kernel, by decide⟩
set_option maxRecDepth 100000 in
theorem Vi_Weeks_bestShift : Cond.instanceMethod M_Weeks_bestShift.1 ∈ lw_g := am_in 1293 (by decide +kernel) rfl
set_option maxRecDepth 100000 in
theorem Vs_Weeks_bestShift : Cond.selects M_Weeks_bestShift.1.cls M_Weeks_bestShift.1 M_Weeks_bestShift.1 ∈ lw_g := am_in 1294 (by decide +kernel) rfl
set_option maxRecDepth 100000 in
theorem Y_Top_fits : am_Y M_Top_fits 3 := ⟨am_in 1299 (by decide +kernel) rfl, In_Top, ⟨by decide, by decide⟩, by decide +kernel, by decide⟩
set_option maxRecDepth 100000 in
theorem Vi_Top_fits : Cond.instanceMethod M_Top_fits.1 ∈ lw_g := am_in 1297 (by decide +kernel) rfl
set_option maxRecDepth 100000 in
theorem Vs_Top_fits : Cond.selects M_Top_fits.1.cls M_Top_fits.1 M_Top_fits.1 ∈ lw_g := am_in 1298 (by decide +kernel) rfl
set_option maxRecDepth 100000 in
theorem Y_Sightings_take : am_Y M_Sightings_take 1 := ⟨am_in 1303 (by decide +kernel) rfl, In_Sightings, ⟨by decide, by decide⟩, by decide +kernel, by decide⟩
set_option maxRecDepth 100000 in
theorem Vi_Sightings_take : Cond.instanceMethod M_Sightings_take.1 ∈ lw_g := am_in 1301 (by decide +kernel) rfl
set_option maxRecDepth 100000 in
theorem Vs_Sightings_take : Cond.selects M_Sightings_take.1.cls M_Sightings_take.1 M_Sightings_take.1 ∈ lw_g := am_in 1302 (by decide +kernel) rfl
set_option maxRecDepth 100000 in
theorem Y_River_allSpots : am_Y M_River_allSpots 0 := ⟨am_in 1311 (by decide +kernel) rfl, In_River, ⟨by decide, by decide⟩, by decide +kernel, by decide⟩
set_option maxRecDepth 100000 in
theorem Vi_River_allSpots : Cond.instanceMethod M_River_allSpots.1 ∈ lw_g := am_in 1309 (by decide +kernel) rfl
set_option maxRecDepth 100000 in
theorem Vs_River_allSpots : Cond.selects M_River_allSpots.1.cls M_River_allSpots.1 M_River_allSpots.1 ∈ lw_g := am_in 1310 (by decide +kernel) rfl
set_option maxRecDepth 100000 in
theorem Y_Sightings_fitting : am_Y M_Sightings_fitting 2 := ⟨am_in 1315 (by decide +kernel) rfl, In_Sightings, ⟨by decide, by decide⟩, by decide +kernel, by decide⟩
set_option maxRecDepth 100000 in
theorem Vi_Sightings_fitting : Cond.instanceMethod M_Sightings_fitting.1 ∈ lw_g := am_in 1313 (by decide +kernel) rfl
set_option maxRecDepth 100000 in
theorem Vs_Sightings_fitting : Cond.selects M_Sightings_fitting.1.cls M_Sightings_fitting.1 M_Sightings_fitting.1 ∈ lw_g := am_in 1314 (by decide +kernel) rfl
set_option maxRecDepth 100000 in
theorem Y_Sightings_firstBreak : am_Y M_Sightings_firstBreak 2 := ⟨am_in 1320 (by decide +kernel) rfl, In_Sightings, ⟨by decide, by decide⟩, by decide +kernel, by decide⟩
set_option maxRecDepth 100000 in
theorem Vi_Sightings_firstBreak : Cond.instanceMethod M_Sightings_firstBreak.1 ∈ lw_g := am_in 1318 (by decide +kernel) rfl
set_option maxRecDepth 100000 in
theorem Vs_Sightings_firstBreak : Cond.selects M_Sightings_firstBreak.1.cls M_Sightings_firstBreak.1 M_Sightings_firstBreak.1 ∈ lw_g := am_in 1319 (by decide +kernel) rfl
set_option maxRecDepth 100000 in
theorem Y_Top_surest : am_Y M_Top_surest 2 := ⟨am_in 1327 (by decide +kernel) rfl, In_Top, ⟨by decide, by decide⟩, by decide +kernel, by decide⟩
set_option maxRecDepth 100000 in
theorem Vi_Top_surest : Cond.instanceMethod M_Top_surest.1 ∈ lw_g := am_in 1325 (by decide +kernel) rfl
set_option maxRecDepth 100000 in
theorem Vs_Top_surest : Cond.selects M_Top_surest.1.cls M_Top_surest.1 M_Top_surest.1 ∈ lw_g := am_in 1326 (by decide +kernel) rfl
set_option maxRecDepth 100000 in
theorem Y_Sightings_surestHour : am_Y M_Sightings_surestHour 1 := ⟨am_in 1331 (by decide +kernel) rfl, In_Sightings, ⟨by decide, by decide⟩, by decide +kernel, by decide⟩
set_option maxRecDepth 100000 in
theorem Vi_Sightings_surestHour : Cond.instanceMethod M_Sightings_surestHour.1 ∈ lw_g := am_in 1329 (by decide +kernel) rfl
set_option maxRecDepth 100000 in
theorem Vs_Sightings_surestHour : Cond.selects M_Sightings_surestHour.1.cls M_Sightings_surestHour.1 M_Sightings_surestHour.1 ∈ lw_g := am_in 1330 (by decide +kernel) rfl
set_option maxRecDepth 100000 in
theorem Y_Top_odd : am_Y M_Top_odd 2 := ⟨am_in 1337 (by decide +kernel) rfl, In_Top, ⟨by decide, by decide⟩, by decide +kernel, by decide⟩
set_option maxRecDepth 100000 in
theorem Vi_Top_odd : Cond.instanceMethod M_Top_odd.1 ∈ lw_g := am_in 1335 (by decide +kernel) rfl
set_option maxRecDepth 100000 in
theorem Vs_Top_odd : Cond.selects M_Top_odd.1.cls M_Top_odd.1 M_Top_odd.1 ∈ lw_g := am_in 1336 (by decide +kernel) rfl
set_option maxRecDepth 100000 in
theorem Y_Top_chance : am_Y M_Top_chance 4 := ⟨am_in 1342 (by decide +kernel) rfl, In_Top, ⟨by decide, by decide⟩, by decide +kernel, by decide⟩
set_option maxRecDepth 100000 in
theorem Vi_Top_chance : Cond.instanceMethod M_Top_chance.1 ∈ lw_g := am_in 1340 (by decide +kernel) rfl
set_option maxRecDepth 100000 in
theorem Vs_Top_chance : Cond.selects M_Top_chance.1.cls M_Top_chance.1 M_Top_chance.1 ∈ lw_g := am_in 1341 (by decide +kernel) rfl
set_option maxRecDepth 100000 in
theorem Y_Chances_outOfPower : am_Y M_Chances_outOfPower 3 := ⟨am_in 1346 (by decide +kernel) rfl, In_Chances, ⟨by decide, by decide⟩, by decide +kernel, by decide⟩
set_option maxRecDepth 100000 in
theorem Vi_Chances_outOfPower : Cond.instanceMethod M_Chances_outOfPower.1 ∈ lw_g := am_in 1344 (by decide +kernel) rfl
set_option maxRecDepth 100000 in
theorem Vs_Chances_outOfPower : Cond.selects M_Chances_outOfPower.1.cls M_Chances_outOfPower.1 M_Chances_outOfPower.1 ∈ lw_g := am_in 1345 (by decide +kernel) rfl
set_option maxRecDepth 100000 in
theorem Y_Chances_weighed : am_Y M_Chances_weighed 3 := ⟨am_in 1353 (by decide +kernel) rfl, In_Chances, ⟨by decide, by decide⟩, by decide +kernel, by decide⟩
set_option maxRecDepth 100000 in
theorem Vi_Chances_weighed : Cond.instanceMethod M_Chances_weighed.1 ∈ lw_g := am_in 1352 (by decide +kernel) rfl
set_option maxRecDepth 100000 in
theorem Vs_Chances_weighed : Cond.selects M_Chances_weighed.1.cls M_Chances_weighed.1 M_Chances_weighed.1 ∈ lw_g := am_in 49 (by decide +kernel) rfl
set_option maxRecDepth 100000 in
theorem Y_Chances_likeliest : am_Y M_Chances_likeliest 3 := ⟨am_in 1358 (by decide +kernel) rfl, In_Chances, ⟨by decide, by decide⟩, by decide +kernel, by decide⟩
set_option maxRecDepth 100000 in
theorem Vi_Chances_likeliest : Cond.instanceMethod M_Chances_likeliest.1 ∈ lw_g := am_in 1357 (by decide +kernel) rfl
set_option maxRecDepth 100000 in
theorem Vs_Chances_likeliest : Cond.selects M_Chances_likeliest.1.cls M_Chances_likeliest.1 M_Chances_likeliest.1 ∈ lw_g := am_in 50 (by decide +kernel) rfl
set_option maxRecDepth 100000 in
theorem Y_Chances_power : am_Y M_Chances_power 1 := ⟨am_in 1364 (by decide +kernel) rfl, In_Chances, ⟨by decide, by decide⟩, by decide +kernel, by decide⟩
set_option maxRecDepth 100000 in
theorem St_Chances_power : Cond.static M_Chances_power.1 ∈ lw_g := am_in 1363 (by decide +kernel) rfl
set_option maxRecDepth 100000 in
theorem Y_Chances_sharedDivisor : am_Y M_Chances_sharedDivisor 2 := ⟨am_in 1369 (by decide +kernel) rfl, In_Chances, ⟨by decide, by decide⟩, by decide +kernel, by decide⟩
set_option maxRecDepth 100000 in
theorem St_Chances_sharedDivisor : Cond.static M_Chances_sharedDivisor.1 ∈ lw_g := am_in 1368 (by decide +kernel) rfl
set_option maxRecDepth 100000 in
theorem Y_Top_likely : am_Y M_Top_likely 3 := ⟨am_in 1374 (by decide +kernel) rfl, In_Top, ⟨by decide, by decide⟩, by decide +kernel, by decide⟩
set_option maxRecDepth 100000 in
theorem Vi_Top_likely : Cond.instanceMethod M_Top_likely.1 ∈ lw_g := am_in 1372 (by decide +kernel) rfl
set_option maxRecDepth 100000 in
theorem Vs_Top_likely : Cond.selects M_Top_likely.1.cls M_Top_likely.1 M_Top_likely.1 ∈ lw_g := am_in 1373 (by decide +kernel) rfl
set_option maxRecDepth 100000 in
theorem Y_Top_numbers : am_Y M_Top_numbers 3 := ⟨am_in 1379 (by decide +kernel) rfl, In_Top, ⟨by decide, by decide⟩, by decide +kernel, by decide⟩
set_option maxRecDepth 100000 in
theorem Vi_Top_numbers : Cond.instanceMethod M_Top_numbers.1 ∈ lw_g := am_in 1377 (by decide +kernel) rfl
set_option maxRecDepth 100000 in
theorem Vs_Top_numbers : Cond.selects M_Top_numbers.1.cls M_Top_numbers.1 M_Top_numbers.1 ∈ lw_g := am_in 1378 (by decide +kernel) rfl
set_option maxRecDepth 100000 in
theorem Y_Tray_empty : am_Y M_Tray_empty 2 := ⟨am_in 1383 (by decide +kernel) rfl, In_Tray, ⟨by decide, by decide⟩, by decide +kernel, by decide⟩
set_option maxRecDepth 100000 in
theorem Vi_Tray_empty : Cond.instanceMethod M_Tray_empty.1 ∈ lw_g := am_in 1381 (by decide +kernel) rfl
set_option maxRecDepth 100000 in
theorem Vs_Tray_empty : Cond.selects M_Tray_empty.1.cls M_Tray_empty.1 M_Tray_empty.1 ∈ lw_g := am_in 1382 (by decide +kernel) rfl
set_option maxRecDepth 100000 in
theorem Y_Top_write : am_Y M_Top_write 3 := ⟨am_in 1388 (by decide +kernel) rfl, In_Top, ⟨by decide, by decide⟩, by decide +kernel, by decide⟩
set_option maxRecDepth 100000 in
theorem Vi_Top_write : Cond.instanceMethod M_Top_write.1 ∈ lw_g := am_in 1386 (by decide +kernel) rfl
set_option maxRecDepth 100000 in
theorem Vs_Top_write : Cond.selects M_Top_write.1.cls M_Top_write.1 M_Top_write.1 ∈ lw_g := am_in 1387 (by decide +kernel) rfl
set_option maxRecDepth 100000 in
theorem Y_Tray_put : am_Y M_Tray_put 2 := ⟨am_in 1394 (by decide +kernel) rfl, In_Tray, ⟨by decide, by decide⟩, by decide +kernel, by decide⟩
set_option maxRecDepth 100000 in
theorem Vi_Tray_put : Cond.instanceMethod M_Tray_put.1 ∈ lw_g := am_in 1392 (by decide +kernel) rfl
set_option maxRecDepth 100000 in
theorem Vs_Tray_put : Cond.selects M_Tray_put.1.cls M_Tray_put.1 M_Tray_put.1 ∈ lw_g := am_in 1393 (by decide +kernel) rfl
set_option maxRecDepth 100000 in
theorem Y_Tray_cut : am_Y M_Tray_cut 1 := ⟨am_in 1398 (by decide +kernel) rfl, In_Tray, ⟨by decide, by decide⟩, by decide +kernel, by decide⟩
set_option maxRecDepth 100000 in
theorem Vi_Tray_cut : Cond.instanceMethod M_Tray_cut.1 ∈ lw_g := am_in 1397 (by decide +kernel) rfl
set_option maxRecDepth 100000 in
theorem Vs_Tray_cut : Cond.selects M_Tray_cut.1.cls M_Tray_cut.1 M_Tray_cut.1 ∈ lw_g := am_in 51 (by decide +kernel) rfl
set_option maxRecDepth 100000 in
theorem Y_Top_lists : am_Y M_Top_lists 3 := ⟨am_in 1403 (by decide +kernel) rfl, In_Top, ⟨by decide, by decide⟩, by decide +kernel, by decide⟩
set_option maxRecDepth 100000 in
theorem Vi_Top_lists : Cond.instanceMethod M_Top_lists.1 ∈ lw_g := am_in 1401 (by decide +kernel) rfl
set_option maxRecDepth 100000 in
theorem Vs_Top_lists : Cond.selects M_Top_lists.1.cls M_Top_lists.1 M_Top_lists.1 ∈ lw_g := am_in 1402 (by decide +kernel) rfl
set_option maxRecDepth 100000 in
theorem Y_Top_image : am_Y M_Top_image 1 := ⟨am_in 1408 (by decide +kernel) rfl, In_Top, ⟨by decide, by decide⟩, by decide +kernel, by decide⟩
set_option maxRecDepth 100000 in
theorem Vi_Top_image : Cond.instanceMethod M_Top_image.1 ∈ lw_g := am_in 1406 (by decide +kernel) rfl
set_option maxRecDepth 100000 in
theorem Vs_Top_image : Cond.selects M_Top_image.1.cls M_Top_image.1 M_Top_image.1 ∈ lw_g := am_in 1407 (by decide +kernel) rfl
set_option maxRecDepth 100000 in
theorem Y_Top_restore : am_Y M_Top_restore 1 := ⟨am_in 1412 (by decide +kernel) rfl, In_Top, ⟨by decide, by decide⟩, by decide +kernel, by decide⟩
set_option maxRecDepth 100000 in
theorem Vi_Top_restore : Cond.instanceMethod M_Top_restore.1 ∈ lw_g := am_in 1410 (by decide +kernel) rfl
set_option maxRecDepth 100000 in
theorem Vs_Top_restore : Cond.selects M_Top_restore.1.cls M_Top_restore.1 M_Top_restore.1 ∈ lw_g := am_in 1411 (by decide +kernel) rfl
set_option maxRecDepth 100000 in
theorem Y_Top_count : am_Y M_Top_count 1 := ⟨am_in 1417 (by decide +kernel) rfl, In_Top, ⟨by decide, by decide⟩, by decide +kernel, by decide⟩
set_option maxRecDepth 100000 in
theorem Vi_Top_count : Cond.instanceMethod M_Top_count.1 ∈ lw_g := am_in 1415 (by decide +kernel) rfl
set_option maxRecDepth 100000 in
theorem Vs_Top_count : Cond.selects M_Top_count.1.cls M_Top_count.1 M_Top_count.1 ∈ lw_g := am_in 1416 (by decide +kernel) rfl
set_option maxRecDepth 100000 in
theorem Y_River_withErrands : am_Y M_River_withErrands 0 := ⟨am_in 1421 (by decide +kernel) rfl, In_River, ⟨by decide, by decide⟩, by decide +kernel, by decide⟩
set_option maxRecDepth 100000 in
theorem Vi_River_withErrands : Cond.instanceMethod M_River_withErrands.1 ∈ lw_g := am_in 1419 (by decide +kernel) rfl
set_option maxRecDepth 100000 in
theorem Vs_River_withErrands : Cond.selects M_River_withErrands.1.cls M_River_withErrands.1 M_River_withErrands.1 ∈ lw_g := am_in 1420 (by decide +kernel) rfl
set_option maxRecDepth 100000 in
theorem Y_State_onSpan : am_Y M_State_onSpan 1 := ⟨am_in 1425 (by decide +kernel) rfl, In_State, ⟨by decide, by decide⟩, by decide +kernel, by decide⟩
set_option maxRecDepth 100000 in
theorem Vi_State_onSpan : Cond.instanceMethod M_State_onSpan.1 ∈ lw_g := am_in 1423 (by decide +kernel) rfl
set_option maxRecDepth 100000 in
theorem Vs_State_onSpan : Cond.selects M_State_onSpan.1.cls M_State_onSpan.1 M_State_onSpan.1 ∈ lw_g := am_in 1424 (by decide +kernel) rfl
set_option maxRecDepth 100000 in
theorem Y_Mod_init : am_Y M_Mod_init 0 := ⟨am_in 1430 (by decide +kernel) rfl, In_Mod, ⟨by decide, by decide⟩, by decide +kernel, by decide⟩
set_option maxRecDepth 100000 in
theorem Vi_Mod_init : Cond.instanceMethod M_Mod_init.1 ∈ lw_g := am_in 1429 (by decide +kernel) rfl
set_option maxRecDepth 100000 in
theorem Y_Mod_plain : am_Y M_Mod_plain 1 := ⟨am_in 1434 (by decide +kernel) rfl, In_Mod, ⟨by decide, by decide⟩, by decide +kernel, by decide⟩
set_option maxRecDepth 100000 in
theorem St_Mod_plain : Cond.static M_Mod_plain.1 ∈ lw_g := am_in 1433 (by decide +kernel) rfl
set_option maxRecDepth 100000 in
theorem Y_Mod_feed : am_Y M_Mod_feed 5 := ⟨am_in 1563 (by decide +kernel) rfl, In_Mod, ⟨by decide, by decide⟩, by decide +kernel, by decide⟩
set_option maxRecDepth 100000 in
theorem Vi_Mod_feed : Cond.instanceMethod M_Mod_feed.1 ∈ lw_g := am_in 1561 (by decide +kernel) rfl
set_option maxRecDepth 100000 in
theorem Vs_Mod_feed : Cond.selects M_Mod_feed.1.cls M_Mod_feed.1 M_Mod_feed.1 ∈ lw_g := am_in 1562 (by decide +kernel) rfl
set_option maxRecDepth 100000 in
theorem Y_Mod_river : am_Y M_Mod_river 1 := ⟨am_in 1567 (by decide +kernel) rfl, In_Mod, ⟨by decide, by decide⟩, by decide +kernel, by decide⟩
set_option maxRecDepth 100000 in
theorem Vi_Mod_river : Cond.instanceMethod M_Mod_river.1 ∈ lw_g := am_in 1565 (by decide +kernel) rfl
set_option maxRecDepth 100000 in
theorem Vs_Mod_river : Cond.selects M_Mod_river.1.cls M_Mod_river.1 M_Mod_river.1 ∈ lw_g := am_in 1566 (by decide +kernel) rfl
set_option maxRecDepth 100000 in
theorem Y_Mod_within : am_Y M_Mod_within 3 := ⟨am_in 1570 (by decide +kernel) rfl, In_Mod, ⟨by decide, by decide⟩, by decide +kernel, by decide⟩
set_option maxRecDepth 100000 in
theorem St_Mod_within : Cond.static M_Mod_within.1 ∈ lw_g := am_in 1569 (by decide +kernel) rfl
set_option maxRecDepth 100000 in
theorem Y_Mod_next : am_Y M_Mod_next 0 := ⟨am_in 1574 (by decide +kernel) rfl, In_Mod, ⟨by decide, by decide⟩, by decide +kernel, by decide⟩
set_option maxRecDepth 100000 in
theorem Vi_Mod_next : Cond.instanceMethod M_Mod_next.1 ∈ lw_g := am_in 1573 (by decide +kernel) rfl
set_option maxRecDepth 100000 in
theorem Vs_Mod_next : Cond.selects M_Mod_next.1.cls M_Mod_next.1 M_Mod_next.1 ∈ lw_g := am_in 52 (by decide +kernel) rfl
set_option maxRecDepth 100000 in
theorem Y_Mod_see : am_Y M_Mod_see 1 := ⟨am_in 1578 (by decide +kernel) rfl, In_Mod, ⟨by decide, by decide⟩, by decide +kernel, by decide⟩
set_option maxRecDepth 100000 in
theorem Vi_Mod_see : Cond.instanceMethod M_Mod_see.1 ∈ lw_g := am_in 1577 (by decide +kernel) rfl
set_option maxRecDepth 100000 in
theorem Vs_Mod_see : Cond.selects M_Mod_see.1.cls M_Mod_see.1 M_Mod_see.1 ∈ lw_g := am_in 53 (by decide +kernel) rfl
set_option maxRecDepth 100000 in
theorem Y_Mod_isSmall : am_Y M_Mod_isSmall 1 := ⟨am_in 1581 (by decide +kernel) rfl, In_Mod, ⟨by decide, by decide⟩, by decide +kernel, by decide⟩
set_option maxRecDepth 100000 in
theorem St_Mod_isSmall : Cond.static M_Mod_isSmall.1 ∈ lw_g := am_in 1580 (by decide +kernel) rfl
set_option maxRecDepth 100000 in
theorem Y_Mod_keyAt : am_Y M_Mod_keyAt 0 := ⟨am_in 1585 (by decide +kernel) rfl, In_Mod, ⟨by decide, by decide⟩, by decide +kernel, by decide⟩
set_option maxRecDepth 100000 in
theorem Vi_Mod_keyAt : Cond.instanceMethod M_Mod_keyAt.1 ∈ lw_g := am_in 1584 (by decide +kernel) rfl
set_option maxRecDepth 100000 in
theorem Vs_Mod_keyAt : Cond.selects M_Mod_keyAt.1.cls M_Mod_keyAt.1 M_Mod_keyAt.1 ∈ lw_g := am_in 54 (by decide +kernel) rfl
set_option maxRecDepth 100000 in
theorem Y_Mod_isDigit : am_Y M_Mod_isDigit 1 := ⟨am_in 1591 (by decide +kernel) rfl, In_Mod, ⟨by decide, by decide⟩, by decide +kernel, by decide⟩
set_option maxRecDepth 100000 in
theorem St_Mod_isDigit : Cond.static M_Mod_isDigit.1 ∈ lw_g := am_in 1590 (by decide +kernel) rfl
set_option maxRecDepth 100000 in
theorem Y_Mod_eats : am_Y M_Mod_eats 1 := ⟨am_in 1596 (by decide +kernel) rfl, In_Mod, ⟨by decide, by decide⟩, by decide +kernel, by decide⟩
set_option maxRecDepth 100000 in
theorem Vi_Mod_eats : Cond.instanceMethod M_Mod_eats.1 ∈ lw_g := am_in 1595 (by decide +kernel) rfl
set_option maxRecDepth 100000 in
theorem Vs_Mod_eats : Cond.selects M_Mod_eats.1.cls M_Mod_eats.1 M_Mod_eats.1 ∈ lw_g := am_in 55 (by decide +kernel) rfl
set_option maxRecDepth 100000 in
theorem Y_Mod_is : am_Y M_Mod_is 1 := ⟨am_in 1600 (by decide +kernel) rfl, In_Mod, ⟨by decide, by decide⟩, by decide +kernel, by decide⟩
set_option maxRecDepth 100000 in
theorem Vi_Mod_is : Cond.instanceMethod M_Mod_is.1 ∈ lw_g := am_in 1599 (by decide +kernel) rfl
set_option maxRecDepth 100000 in
theorem Vs_Mod_is : Cond.selects M_Mod_is.1.cls M_Mod_is.1 M_Mod_is.1 ∈ lw_g := am_in 56 (by decide +kernel) rfl
set_option maxRecDepth 100000 in
theorem Y_Mod_fails : am_Y M_Mod_fails 1 := ⟨am_in 1604 (by decide +kernel) rfl, In_Mod, ⟨by decide, by decide⟩, by decide +kernel, by decide⟩
set_option maxRecDepth 100000 in
theorem Vi_Mod_fails : Cond.instanceMethod M_Mod_fails.1 ∈ lw_g := am_in 1603 (by decide +kernel) rfl
set_option maxRecDepth 100000 in
theorem Vs_Mod_fails : Cond.selects M_Mod_fails.1.cls M_Mod_fails.1 M_Mod_fails.1 ∈ lw_g := am_in 57 (by decide +kernel) rfl
set_option maxRecDepth 100000 in
theorem Y_Mod_takes : am_Y M_Mod_takes 2 := ⟨am_in 1608 (by decide +kernel) rfl, In_Mod, ⟨by decide, by decide⟩, by decide +kernel, by decide⟩
set_option maxRecDepth 100000 in
theorem Vi_Mod_takes : Cond.instanceMethod M_Mod_takes.1 ∈ lw_g := am_in 1607 (by decide +kernel) rfl
set_option maxRecDepth 100000 in
theorem Vs_Mod_takes : Cond.selects M_Mod_takes.1.cls M_Mod_takes.1 M_Mod_takes.1 ∈ lw_g := am_in 58 (by decide +kernel) rfl
set_option maxRecDepth 100000 in
theorem Y_Mod_ends : am_Y M_Mod_ends 0 := ⟨am_in 1612 (by decide +kernel) rfl, In_Mod, ⟨by decide, by decide⟩, by decide +kernel, by decide⟩
set_option maxRecDepth 100000 in
theorem Vi_Mod_ends : Cond.instanceMethod M_Mod_ends.1 ∈ lw_g := am_in 1611 (by decide +kernel) rfl
set_option maxRecDepth 100000 in
theorem Vs_Mod_ends : Cond.selects M_Mod_ends.1.cls M_Mod_ends.1 M_Mod_ends.1 ∈ lw_g := am_in 59 (by decide +kernel) rfl
set_option maxRecDepth 100000 in
theorem Y_Mod_readLine : am_Y M_Mod_readLine 0 := ⟨am_in 1616 (by decide +kernel) rfl, In_Mod, ⟨by decide, by decide⟩, by decide +kernel, by decide⟩
set_option maxRecDepth 100000 in
theorem Vi_Mod_readLine : Cond.instanceMethod M_Mod_readLine.1 ∈ lw_g := am_in 1615 (by decide +kernel) rfl
set_option maxRecDepth 100000 in
theorem Vs_Mod_readLine : Cond.selects M_Mod_readLine.1.cls M_Mod_readLine.1 M_Mod_readLine.1 ∈ lw_g := am_in 60 (by decide +kernel) rfl
set_option maxRecDepth 100000 in
theorem Y_Mod_readSpan : am_Y M_Mod_readSpan 0 := ⟨am_in 1620 (by decide +kernel) rfl, In_Mod, ⟨by decide, by decide⟩, by decide +kernel, by decide⟩
set_option maxRecDepth 100000 in
theorem Vi_Mod_readSpan : Cond.instanceMethod M_Mod_readSpan.1 ∈ lw_g := am_in 1619 (by decide +kernel) rfl
set_option maxRecDepth 100000 in
theorem Vs_Mod_readSpan : Cond.selects M_Mod_readSpan.1.cls M_Mod_readSpan.1 M_Mod_readSpan.1 ∈ lw_g := am_in 61 (by decide +kernel) rfl
set_option maxRecDepth 100000 in
theorem Y_Mod_readPerson : am_Y M_Mod_readPerson 0 := ⟨am_in 1624 (by decide +kernel) rfl, In_Mod, ⟨by decide, by decide⟩, by decide +kernel, by decide⟩
set_option maxRecDepth 100000 in
theorem Vi_Mod_readPerson : Cond.instanceMethod M_Mod_readPerson.1 ∈ lw_g := am_in 1623 (by decide +kernel) rfl
set_option maxRecDepth 100000 in
theorem Vs_Mod_readPerson : Cond.selects M_Mod_readPerson.1.cls M_Mod_readPerson.1 M_Mod_readPerson.1 ∈ lw_g := am_in 62 (by decide +kernel) rfl
set_option maxRecDepth 100000 in
theorem Y_Mod_readSpot : am_Y M_Mod_readSpot 0 := ⟨am_in 1628 (by decide +kernel) rfl, In_Mod, ⟨by decide, by decide⟩, by decide +kernel, by decide⟩
set_option maxRecDepth 100000 in
theorem Vi_Mod_readSpot : Cond.instanceMethod M_Mod_readSpot.1 ∈ lw_g := am_in 1627 (by decide +kernel) rfl
set_option maxRecDepth 100000 in
theorem Vs_Mod_readSpot : Cond.selects M_Mod_readSpot.1.cls M_Mod_readSpot.1 M_Mod_readSpot.1 ∈ lw_g := am_in 63 (by decide +kernel) rfl
set_option maxRecDepth 100000 in
theorem Y_Mod_readFlag : am_Y M_Mod_readFlag 1 := ⟨am_in 1632 (by decide +kernel) rfl, In_Mod, ⟨by decide, by decide⟩, by decide +kernel, by decide⟩
set_option maxRecDepth 100000 in
theorem Vi_Mod_readFlag : Cond.instanceMethod M_Mod_readFlag.1 ∈ lw_g := am_in 1631 (by decide +kernel) rfl
set_option maxRecDepth 100000 in
theorem Vs_Mod_readFlag : Cond.selects M_Mod_readFlag.1.cls M_Mod_readFlag.1 M_Mod_readFlag.1 ∈ lw_g := am_in 64 (by decide +kernel) rfl
set_option maxRecDepth 100000 in
theorem Y_Mod_readLaw : am_Y M_Mod_readLaw 1 := ⟨am_in 1636 (by decide +kernel) rfl, In_Mod, ⟨by decide, by decide⟩, by decide +kernel, by decide⟩
set_option maxRecDepth 100000 in
theorem Vi_Mod_readLaw : Cond.instanceMethod M_Mod_readLaw.1 ∈ lw_g := am_in 1635 (by decide +kernel) rfl
set_option maxRecDepth 100000 in
theorem Vs_Mod_readLaw : Cond.selects M_Mod_readLaw.1.cls M_Mod_readLaw.1 M_Mod_readLaw.1 ∈ lw_g := am_in 65 (by decide +kernel) rfl
set_option maxRecDepth 100000 in
theorem Y_Mod_readTruth : am_Y M_Mod_readTruth 1 := ⟨am_in 1640 (by decide +kernel) rfl, In_Mod, ⟨by decide, by decide⟩, by decide +kernel, by decide⟩
set_option maxRecDepth 100000 in
theorem Vi_Mod_readTruth : Cond.instanceMethod M_Mod_readTruth.1 ∈ lw_g := am_in 1639 (by decide +kernel) rfl
set_option maxRecDepth 100000 in
theorem Vs_Mod_readTruth : Cond.selects M_Mod_readTruth.1.cls M_Mod_readTruth.1 M_Mod_readTruth.1 ∈ lw_g := am_in 66 (by decide +kernel) rfl
set_option maxRecDepth 100000 in
theorem Y_Mod_readBoth : am_Y M_Mod_readBoth 1 := ⟨am_in 1644 (by decide +kernel) rfl, In_Mod, ⟨by decide, by decide⟩, by decide +kernel, by decide⟩
set_option maxRecDepth 100000 in
theorem Vi_Mod_readBoth : Cond.instanceMethod M_Mod_readBoth.1 ∈ lw_g := am_in 1643 (by decide +kernel) rfl
set_option maxRecDepth 100000 in
theorem Vs_Mod_readBoth : Cond.selects M_Mod_readBoth.1.cls M_Mod_readBoth.1 M_Mod_readBoth.1 ∈ lw_g := am_in 67 (by decide +kernel) rfl
set_option maxRecDepth 100000 in
theorem Y_Mod_readUnit : am_Y M_Mod_readUnit 1 := ⟨am_in 1648 (by decide +kernel) rfl, In_Mod, ⟨by decide, by decide⟩, by decide +kernel, by decide⟩
set_option maxRecDepth 100000 in
theorem Vi_Mod_readUnit : Cond.instanceMethod M_Mod_readUnit.1 ∈ lw_g := am_in 1647 (by decide +kernel) rfl
set_option maxRecDepth 100000 in
theorem Vs_Mod_readUnit : Cond.selects M_Mod_readUnit.1.cls M_Mod_readUnit.1 M_Mod_readUnit.1 ∈ lw_g := am_in 68 (by decide +kernel) rfl
set_option maxRecDepth 100000 in
theorem Y_Mod_goesIn : am_Y M_Mod_goesIn 1 := ⟨am_in 1652 (by decide +kernel) rfl, In_Mod, ⟨by decide, by decide⟩, by decide +kernel, by decide⟩
set_option maxRecDepth 100000 in
theorem Vi_Mod_goesIn : Cond.instanceMethod M_Mod_goesIn.1 ∈ lw_g := am_in 1651 (by decide +kernel) rfl
set_option maxRecDepth 100000 in
theorem Vs_Mod_goesIn : Cond.selects M_Mod_goesIn.1.cls M_Mod_goesIn.1 M_Mod_goesIn.1 ∈ lw_g := am_in 69 (by decide +kernel) rfl
set_option maxRecDepth 100000 in
theorem Y_Mod_codes : am_Y M_Mod_codes 1 := ⟨am_in 1656 (by decide +kernel) rfl, In_Mod, ⟨by decide, by decide⟩, by decide +kernel, by decide⟩
set_option maxRecDepth 100000 in
theorem Vi_Mod_codes : Cond.instanceMethod M_Mod_codes.1 ∈ lw_g := am_in 1655 (by decide +kernel) rfl
set_option maxRecDepth 100000 in
theorem Vs_Mod_codes : Cond.selects M_Mod_codes.1.cls M_Mod_codes.1 M_Mod_codes.1 ∈ lw_g := am_in 70 (by decide +kernel) rfl
set_option maxRecDepth 100000 in
theorem Y_Mod_readSum : am_Y M_Mod_readSum 1 := ⟨am_in 1660 (by decide +kernel) rfl, In_Mod, ⟨by decide, by decide⟩, by decide +kernel, by decide⟩
set_option maxRecDepth 100000 in
theorem Vi_Mod_readSum : Cond.instanceMethod M_Mod_readSum.1 ∈ lw_g := am_in 1659 (by decide +kernel) rfl
set_option maxRecDepth 100000 in
theorem Vs_Mod_readSum : Cond.selects M_Mod_readSum.1.cls M_Mod_readSum.1 M_Mod_readSum.1 ∈ lw_g := am_in 71 (by decide +kernel) rfl
set_option maxRecDepth 100000 in
theorem Y_Mod_readTerm : am_Y M_Mod_readTerm 1 := ⟨am_in 1664 (by decide +kernel) rfl, In_Mod, ⟨by decide, by decide⟩, by decide +kernel, by decide⟩
set_option maxRecDepth 100000 in
theorem Vi_Mod_readTerm : Cond.instanceMethod M_Mod_readTerm.1 ∈ lw_g := am_in 1663 (by decide +kernel) rfl
set_option maxRecDepth 100000 in
theorem Vs_Mod_readTerm : Cond.selects M_Mod_readTerm.1.cls M_Mod_readTerm.1 M_Mod_readTerm.1 ∈ lw_g := am_in 72 (by decide +kernel) rfl
set_option maxRecDepth 100000 in
theorem Y_Mod_readAtom : am_Y M_Mod_readAtom 1 := ⟨am_in 1668 (by decide +kernel) rfl, In_Mod, ⟨by decide, by decide⟩, by decide +kernel, by decide⟩
set_option maxRecDepth 100000 in
theorem Vi_Mod_readAtom : Cond.instanceMethod M_Mod_readAtom.1 ∈ lw_g := am_in 1667 (by decide +kernel) rfl
set_option maxRecDepth 100000 in
theorem Vs_Mod_readAtom : Cond.selects M_Mod_readAtom.1.cls M_Mod_readAtom.1 M_Mod_readAtom.1 ∈ lw_g := am_in 73 (by decide +kernel) rfl
set_option maxRecDepth 100000 in
theorem Y_Mod_wordOf : am_Y M_Mod_wordOf 1 := ⟨am_in 1672 (by decide +kernel) rfl, In_Mod, ⟨by decide, by decide⟩, by decide +kernel, by decide⟩
set_option maxRecDepth 100000 in
theorem Vi_Mod_wordOf : Cond.instanceMethod M_Mod_wordOf.1 ∈ lw_g := am_in 1671 (by decide +kernel) rfl
set_option maxRecDepth 100000 in
theorem Vs_Mod_wordOf : Cond.selects M_Mod_wordOf.1.cls M_Mod_wordOf.1 M_Mod_wordOf.1 ∈ lw_g := am_in 74 (by decide +kernel) rfl
set_option maxRecDepth 100000 in
theorem Y_Mod_doesErrands : am_Y M_Mod_doesErrands 0 := ⟨am_in 1676 (by decide +kernel) rfl, In_Mod, ⟨by decide, by decide⟩, by decide +kernel, by decide⟩
set_option maxRecDepth 100000 in
theorem Vi_Mod_doesErrands : Cond.instanceMethod M_Mod_doesErrands.1 ∈ lw_g := am_in 1675 (by decide +kernel) rfl
set_option maxRecDepth 100000 in
theorem Vs_Mod_doesErrands : Cond.selects M_Mod_doesErrands.1.cls M_Mod_doesErrands.1 M_Mod_doesErrands.1 ∈ lw_g := am_in 75 (by decide +kernel) rfl
set_option maxRecDepth 100000 in
theorem Y_Mod_isIn : am_Y M_Mod_isIn 2 := ⟨am_in 1679 (by decide +kernel) rfl, In_Mod, ⟨by decide, by decide⟩, by decide +kernel, by decide⟩
set_option maxRecDepth 100000 in
theorem St_Mod_isIn : Cond.static M_Mod_isIn.1 ∈ lw_g := am_in 1678 (by decide +kernel) rfl
set_option maxRecDepth 100000 in
theorem Y_Mod_fault : am_Y M_Mod_fault 1 := ⟨am_in 1683 (by decide +kernel) rfl, In_Mod, ⟨by decide, by decide⟩, by decide +kernel, by decide⟩
set_option maxRecDepth 100000 in
theorem Vi_Mod_fault : Cond.instanceMethod M_Mod_fault.1 ∈ lw_g := am_in 1681 (by decide +kernel) rfl
set_option maxRecDepth 100000 in
theorem Vs_Mod_fault : Cond.selects M_Mod_fault.1.cls M_Mod_fault.1 M_Mod_fault.1 ∈ lw_g := am_in 1682 (by decide +kernel) rfl
set_option maxRecDepth 100000 in
theorem Y_Mod_span : am_Y M_Mod_span 1 := ⟨am_in 1687 (by decide +kernel) rfl, In_Mod, ⟨by decide, by decide⟩, by decide +kernel, by decide⟩
set_option maxRecDepth 100000 in
theorem Vi_Mod_span : Cond.instanceMethod M_Mod_span.1 ∈ lw_g := am_in 1685 (by decide +kernel) rfl
set_option maxRecDepth 100000 in
theorem Vs_Mod_span : Cond.selects M_Mod_span.1.cls M_Mod_span.1 M_Mod_span.1 ∈ lw_g := am_in 1686 (by decide +kernel) rfl
set_option maxRecDepth 100000 in
theorem Y_Mod_spanIn : am_Y M_Mod_spanIn 1 := ⟨am_in 1692 (by decide +kernel) rfl, In_Mod, ⟨by decide, by decide⟩, by decide +kernel, by decide⟩
set_option maxRecDepth 100000 in
theorem Vi_Mod_spanIn : Cond.instanceMethod M_Mod_spanIn.1 ∈ lw_g := am_in 1691 (by decide +kernel) rfl
set_option maxRecDepth 100000 in
theorem Vs_Mod_spanIn : Cond.selects M_Mod_spanIn.1.cls M_Mod_spanIn.1 M_Mod_spanIn.1 ∈ lw_g := am_in 76 (by decide +kernel) rfl
set_option maxRecDepth 100000 in
theorem Y_Mod_person : am_Y M_Mod_person 2 := ⟨am_in 1696 (by decide +kernel) rfl, In_Mod, ⟨by decide, by decide⟩, by decide +kernel, by decide⟩
set_option maxRecDepth 100000 in
theorem Vi_Mod_person : Cond.instanceMethod M_Mod_person.1 ∈ lw_g := am_in 1694 (by decide +kernel) rfl
set_option maxRecDepth 100000 in
theorem Vs_Mod_person : Cond.selects M_Mod_person.1.cls M_Mod_person.1 M_Mod_person.1 ∈ lw_g := am_in 1695 (by decide +kernel) rfl
set_option maxRecDepth 100000 in
theorem Y_Mod_isPerson : am_Y M_Mod_isPerson 1 := ⟨am_in 1700 (by decide +kernel) rfl, In_Mod, ⟨by decide, by decide⟩, by decide +kernel, by decide⟩
set_option maxRecDepth 100000 in
theorem Vi_Mod_isPerson : Cond.instanceMethod M_Mod_isPerson.1 ∈ lw_g := am_in 1699 (by decide +kernel) rfl
set_option maxRecDepth 100000 in
theorem Vs_Mod_isPerson : Cond.selects M_Mod_isPerson.1.cls M_Mod_isPerson.1 M_Mod_isPerson.1 ∈ lw_g := am_in 77 (by decide +kernel) rfl
set_option maxRecDepth 100000 in
theorem Y_Mod_why : am_Y M_Mod_why 2 := ⟨am_in 1704 (by decide +kernel) rfl, In_Mod, ⟨by decide, by decide⟩, by decide +kernel, by decide⟩
set_option maxRecDepth 100000 in
theorem Vi_Mod_why : Cond.instanceMethod M_Mod_why.1 ∈ lw_g := am_in 1702 (by decide +kernel) rfl
set_option maxRecDepth 100000 in
theorem Vs_Mod_why : Cond.selects M_Mod_why.1.cls M_Mod_why.1 M_Mod_why.1 ∈ lw_g := am_in 1703 (by decide +kernel) rfl
set_option maxRecDepth 100000 in
theorem Y_Mod_whyTold : am_Y M_Mod_whyTold 2 := ⟨am_in 1708 (by decide +kernel) rfl, In_Mod, ⟨by decide, by decide⟩, by decide +kernel, by decide⟩
set_option maxRecDepth 100000 in
theorem Vi_Mod_whyTold : Cond.instanceMethod M_Mod_whyTold.1 ∈ lw_g := am_in 1707 (by decide +kernel) rfl
set_option maxRecDepth 100000 in
theorem Vs_Mod_whyTold : Cond.selects M_Mod_whyTold.1.cls M_Mod_whyTold.1 M_Mod_whyTold.1 ∈ lw_g := am_in 78 (by decide +kernel) rfl
set_option maxRecDepth 100000 in
theorem Y_Mod_fogIn : am_Y M_Mod_fogIn 1 := ⟨am_in 1713 (by decide +kernel) rfl, In_Mod, ⟨by decide, by decide⟩, by decide +kernel, by decide⟩
set_option maxRecDepth 100000 in
theorem Vi_Mod_fogIn : Cond.instanceMethod M_Mod_fogIn.1 ∈ lw_g := am_in 1712 (by decide +kernel) rfl
set_option maxRecDepth 100000 in
theorem Vs_Mod_fogIn : Cond.selects M_Mod_fogIn.1.cls M_Mod_fogIn.1 M_Mod_fogIn.1 ∈ lw_g := am_in 79 (by decide +kernel) rfl
set_option maxRecDepth 100000 in
theorem Y_Mod_whyAct : am_Y M_Mod_whyAct 5 := ⟨am_in 1717 (by decide +kernel) rfl, In_Mod, ⟨by decide, by decide⟩, by decide +kernel, by decide⟩
set_option maxRecDepth 100000 in
theorem Vi_Mod_whyAct : Cond.instanceMethod M_Mod_whyAct.1 ∈ lw_g := am_in 1716 (by decide +kernel) rfl
set_option maxRecDepth 100000 in
theorem Vs_Mod_whyAct : Cond.selects M_Mod_whyAct.1.cls M_Mod_whyAct.1 M_Mod_whyAct.1 ∈ lw_g := am_in 80 (by decide +kernel) rfl
set_option maxRecDepth 100000 in
theorem Y_Mod_leads : am_Y M_Mod_leads 3 := ⟨am_in 1721 (by decide +kernel) rfl, In_Mod, ⟨by decide, by decide⟩, by decide +kernel, by decide⟩
set_option maxRecDepth 100000 in
theorem Vi_Mod_leads : Cond.instanceMethod M_Mod_leads.1 ∈ lw_g := am_in 1720 (by decide +kernel) rfl
set_option maxRecDepth 100000 in
theorem Vs_Mod_leads : Cond.selects M_Mod_leads.1.cls M_Mod_leads.1 M_Mod_leads.1 ∈ lw_g := am_in 81 (by decide +kernel) rfl
set_option maxRecDepth 100000 in
theorem Y_Mod_lets : am_Y M_Mod_lets 6 := ⟨am_in 1725 (by decide +kernel) rfl, In_Mod, ⟨by decide, by decide⟩, by decide +kernel, by decide⟩
set_option maxRecDepth 100000 in
theorem Vi_Mod_lets : Cond.instanceMethod M_Mod_lets.1 ∈ lw_g := am_in 1724 (by decide +kernel) rfl
set_option maxRecDepth 100000 in
theorem Vs_Mod_lets : Cond.selects M_Mod_lets.1.cls M_Mod_lets.1 M_Mod_lets.1 ∈ lw_g := am_in 82 (by decide +kernel) rfl
set_option maxRecDepth 100000 in
theorem Y_Mod_between : am_Y M_Mod_between 3 := ⟨am_in 1728 (by decide +kernel) rfl, In_Mod, ⟨by decide, by decide⟩, by decide +kernel, by decide⟩
set_option maxRecDepth 100000 in
theorem St_Mod_between : Cond.static M_Mod_between.1 ∈ lw_g := am_in 1727 (by decide +kernel) rfl
set_option maxRecDepth 100000 in
theorem Y_Mod_act : am_Y M_Mod_act 2 := ⟨am_in 1734 (by decide +kernel) rfl, In_Mod, ⟨by decide, by decide⟩, by decide +kernel, by decide⟩
set_option maxRecDepth 100000 in
theorem Vi_Mod_act : Cond.instanceMethod M_Mod_act.1 ∈ lw_g := am_in 1732 (by decide +kernel) rfl
set_option maxRecDepth 100000 in
theorem Vs_Mod_act : Cond.selects M_Mod_act.1.cls M_Mod_act.1 M_Mod_act.1 ∈ lw_g := am_in 1733 (by decide +kernel) rfl
set_option maxRecDepth 100000 in
theorem Y_Mod_keeps : am_Y M_Mod_keeps 0 := ⟨am_in 1738 (by decide +kernel) rfl, In_Mod, ⟨by decide, by decide⟩, by decide +kernel, by decide⟩
set_option maxRecDepth 100000 in
theorem Vi_Mod_keeps : Cond.instanceMethod M_Mod_keeps.1 ∈ lw_g := am_in 1737 (by decide +kernel) rfl
set_option maxRecDepth 100000 in
theorem Vs_Mod_keeps : Cond.selects M_Mod_keeps.1.cls M_Mod_keeps.1 M_Mod_keeps.1 ∈ lw_g := am_in 83 (by decide +kernel) rfl
set_option maxRecDepth 100000 in
theorem Y_Mod_notes : am_Y M_Mod_notes 0 := ⟨am_in 1742 (by decide +kernel) rfl, In_Mod, ⟨by decide, by decide⟩, by decide +kernel, by decide⟩
set_option maxRecDepth 100000 in
theorem Vi_Mod_notes : Cond.instanceMethod M_Mod_notes.1 ∈ lw_g := am_in 1741 (by decide +kernel) rfl
set_option maxRecDepth 100000 in
theorem Vs_Mod_notes : Cond.selects M_Mod_notes.1.cls M_Mod_notes.1 M_Mod_notes.1 ∈ lw_g := am_in 84 (by decide +kernel) rfl
set_option maxRecDepth 100000 in
theorem Y_Mod_tell : am_Y M_Mod_tell 2 := ⟨am_in 1746 (by decide +kernel) rfl, In_Mod, ⟨by decide, by decide⟩, by decide +kernel, by decide⟩
set_option maxRecDepth 100000 in
theorem Vi_Mod_tell : Cond.instanceMethod M_Mod_tell.1 ∈ lw_g := am_in 1744 (by decide +kernel) rfl
set_option maxRecDepth 100000 in
theorem Vs_Mod_tell : Cond.selects M_Mod_tell.1.cls M_Mod_tell.1 M_Mod_tell.1 ∈ lw_g := am_in 1745 (by decide +kernel) rfl
set_option maxRecDepth 100000 in
theorem Y_Mod_fog : am_Y M_Mod_fog 1 := ⟨am_in 1751 (by decide +kernel) rfl, In_Mod, ⟨by decide, by decide⟩, by decide +kernel, by decide⟩
set_option maxRecDepth 100000 in
theorem Vi_Mod_fog : Cond.instanceMethod M_Mod_fog.1 ∈ lw_g := am_in 1749 (by decide +kernel) rfl
set_option maxRecDepth 100000 in
theorem Vs_Mod_fog : Cond.selects M_Mod_fog.1.cls M_Mod_fog.1 M_Mod_fog.1 ∈ lw_g := am_in 1750 (by decide +kernel) rfl
set_option maxRecDepth 100000 in
theorem Y_Mod_hours : am_Y M_Mod_hours 1 := ⟨am_in 1756 (by decide +kernel) rfl, In_Mod, ⟨by decide, by decide⟩, by decide +kernel, by decide⟩
set_option maxRecDepth 100000 in
theorem Vi_Mod_hours : Cond.instanceMethod M_Mod_hours.1 ∈ lw_g := am_in 1754 (by decide +kernel) rfl
set_option maxRecDepth 100000 in
theorem Vs_Mod_hours : Cond.selects M_Mod_hours.1.cls M_Mod_hours.1 M_Mod_hours.1 ∈ lw_g := am_in 1755 (by decide +kernel) rfl
set_option maxRecDepth 100000 in
theorem Y_Mod_goesHour : am_Y M_Mod_goesHour 0 := ⟨am_in 1761 (by decide +kernel) rfl, In_Mod, ⟨by decide, by decide⟩, by decide +kernel, by decide⟩
set_option maxRecDepth 100000 in
theorem Vi_Mod_goesHour : Cond.instanceMethod M_Mod_goesHour.1 ∈ lw_g := am_in 1760 (by decide +kernel) rfl
set_option maxRecDepth 100000 in
theorem Vs_Mod_goesHour : Cond.selects M_Mod_goesHour.1.cls M_Mod_goesHour.1 M_Mod_goesHour.1 ∈ lw_g := am_in 85 (by decide +kernel) rfl
set_option maxRecDepth 100000 in
theorem Y_Mod_undo : am_Y M_Mod_undo 1 := ⟨am_in 1765 (by decide +kernel) rfl, In_Mod, ⟨by decide, by decide⟩, by decide +kernel, by decide⟩
set_option maxRecDepth 100000 in
theorem Vi_Mod_undo : Cond.instanceMethod M_Mod_undo.1 ∈ lw_g := am_in 1763 (by decide +kernel) rfl
set_option maxRecDepth 100000 in
theorem Vs_Mod_undo : Cond.selects M_Mod_undo.1.cls M_Mod_undo.1 M_Mod_undo.1 ∈ lw_g := am_in 1764 (by decide +kernel) rfl
set_option maxRecDepth 100000 in
theorem Y_Mod_judge : am_Y M_Mod_judge 2 := ⟨am_in 1770 (by decide +kernel) rfl, In_Mod, ⟨by decide, by decide⟩, by decide +kernel, by decide⟩
set_option maxRecDepth 100000 in
theorem Vi_Mod_judge : Cond.instanceMethod M_Mod_judge.1 ∈ lw_g := am_in 1768 (by decide +kernel) rfl
set_option maxRecDepth 100000 in
theorem Vs_Mod_judge : Cond.selects M_Mod_judge.1.cls M_Mod_judge.1 M_Mod_judge.1 ∈ lw_g := am_in 1769 (by decide +kernel) rfl
set_option maxRecDepth 100000 in
theorem Y_Mod_noTray : am_Y M_Mod_noTray 1 := ⟨am_in 1775 (by decide +kernel) rfl, In_Mod, ⟨by decide, by decide⟩, by decide +kernel, by decide⟩
set_option maxRecDepth 100000 in
theorem Vi_Mod_noTray : Cond.instanceMethod M_Mod_noTray.1 ∈ lw_g := am_in 1774 (by decide +kernel) rfl
set_option maxRecDepth 100000 in
theorem Vs_Mod_noTray : Cond.selects M_Mod_noTray.1.cls M_Mod_noTray.1 M_Mod_noTray.1 ∈ lw_g := am_in 86 (by decide +kernel) rfl
set_option maxRecDepth 100000 in
theorem Y_Mod_tells : am_Y M_Mod_tells 1 := ⟨am_in 1779 (by decide +kernel) rfl, In_Mod, ⟨by decide, by decide⟩, by decide +kernel, by decide⟩
set_option maxRecDepth 100000 in
theorem Vi_Mod_tells : Cond.instanceMethod M_Mod_tells.1 ∈ lw_g := am_in 1778 (by decide +kernel) rfl
set_option maxRecDepth 100000 in
theorem Vs_Mod_tells : Cond.selects M_Mod_tells.1.cls M_Mod_tells.1 M_Mod_tells.1 ∈ lw_g := am_in 87 (by decide +kernel) rfl
set_option maxRecDepth 100000 in
theorem Y_Mod_whyNot : am_Y M_Mod_whyNot 1 := ⟨am_in 1783 (by decide +kernel) rfl, In_Mod, ⟨by decide, by decide⟩, by decide +kernel, by decide⟩
set_option maxRecDepth 100000 in
theorem Vi_Mod_whyNot : Cond.instanceMethod M_Mod_whyNot.1 ∈ lw_g := am_in 1782 (by decide +kernel) rfl
set_option maxRecDepth 100000 in
theorem Vs_Mod_whyNot : Cond.selects M_Mod_whyNot.1.cls M_Mod_whyNot.1 M_Mod_whyNot.1 ∈ lw_g := am_in 88 (by decide +kernel) rfl
set_option maxRecDepth 100000 in
theorem Y_Mod_does : am_Y M_Mod_does 1 := ⟨am_in 1793 (by decide +kernel) rfl, In_Mod, ⟨by decide, by decide⟩, by decide +kernel, by decide⟩
set_option maxRecDepth 100000 in
theorem Vi_Mod_does : Cond.instanceMethod M_Mod_does.1 ∈ lw_g := am_in 1792 (by decide +kernel) rfl
set_option maxRecDepth 100000 in
theorem Vs_Mod_does : Cond.selects M_Mod_does.1.cls M_Mod_does.1 M_Mod_does.1 ∈ lw_g := am_in 89 (by decide +kernel) rfl
set_option maxRecDepth 100000 in
theorem Y_Mod_isAgain : am_Y M_Mod_isAgain 0 := ⟨am_in 1797 (by decide +kernel) rfl, In_Mod, ⟨by decide, by decide⟩, by decide +kernel, by decide⟩
set_option maxRecDepth 100000 in
theorem Vi_Mod_isAgain : Cond.instanceMethod M_Mod_isAgain.1 ∈ lw_g := am_in 1796 (by decide +kernel) rfl
set_option maxRecDepth 100000 in
theorem Vs_Mod_isAgain : Cond.selects M_Mod_isAgain.1.cls M_Mod_isAgain.1 M_Mod_isAgain.1 ∈ lw_g := am_in 90 (by decide +kernel) rfl
set_option maxRecDepth 100000 in
theorem Y_Mod_perform : am_Y M_Mod_perform 1 := ⟨am_in 1801 (by decide +kernel) rfl, In_Mod, ⟨by decide, by decide⟩, by decide +kernel, by decide⟩
set_option maxRecDepth 100000 in
theorem Vi_Mod_perform : Cond.instanceMethod M_Mod_perform.1 ∈ lw_g := am_in 1799 (by decide +kernel) rfl
set_option maxRecDepth 100000 in
theorem Vs_Mod_perform : Cond.selects M_Mod_perform.1.cls M_Mod_perform.1 M_Mod_perform.1 ∈ lw_g := am_in 1800 (by decide +kernel) rfl
set_option maxRecDepth 100000 in
theorem Y_Mod_year : am_Y M_Mod_year 2 := ⟨am_in 1805 (by decide +kernel) rfl, In_Mod, ⟨by decide, by decide⟩, by decide +kernel, by decide⟩
set_option maxRecDepth 100000 in
theorem Vi_Mod_year : Cond.instanceMethod M_Mod_year.1 ∈ lw_g := am_in 1803 (by decide +kernel) rfl
set_option maxRecDepth 100000 in
theorem Vs_Mod_year : Cond.selects M_Mod_year.1.cls M_Mod_year.1 M_Mod_year.1 ∈ lw_g := am_in 1804 (by decide +kernel) rfl
set_option maxRecDepth 100000 in
theorem Y_Mod_drawn : am_Y M_Mod_drawn 0 := ⟨am_in 1810 (by decide +kernel) rfl, In_Mod, ⟨by decide, by decide⟩, by decide +kernel, by decide⟩
set_option maxRecDepth 100000 in
theorem Vi_Mod_drawn : Cond.instanceMethod M_Mod_drawn.1 ∈ lw_g := am_in 1809 (by decide +kernel) rfl
set_option maxRecDepth 100000 in
theorem Vs_Mod_drawn : Cond.selects M_Mod_drawn.1.cls M_Mod_drawn.1 M_Mod_drawn.1 ∈ lw_g := am_in 91 (by decide +kernel) rfl
set_option maxRecDepth 100000 in
theorem Y_Mod_draw : am_Y M_Mod_draw 1 := ⟨am_in 1814 (by decide +kernel) rfl, In_Mod, ⟨by decide, by decide⟩, by decide +kernel, by decide⟩
set_option maxRecDepth 100000 in
theorem Vi_Mod_draw : Cond.instanceMethod M_Mod_draw.1 ∈ lw_g := am_in 1813 (by decide +kernel) rfl
set_option maxRecDepth 100000 in
theorem Vs_Mod_draw : Cond.selects M_Mod_draw.1.cls M_Mod_draw.1 M_Mod_draw.1 ∈ lw_g := am_in 92 (by decide +kernel) rfl
set_option maxRecDepth 100000 in
theorem Y_Mod_soonest : am_Y M_Mod_soonest 2 := ⟨am_in 1819 (by decide +kernel) rfl, In_Mod, ⟨by decide, by decide⟩, by decide +kernel, by decide⟩
set_option maxRecDepth 100000 in
theorem Vi_Mod_soonest : Cond.instanceMethod M_Mod_soonest.1 ∈ lw_g := am_in 1817 (by decide +kernel) rfl
set_option maxRecDepth 100000 in
theorem Vs_Mod_soonest : Cond.selects M_Mod_soonest.1.cls M_Mod_soonest.1 M_Mod_soonest.1 ∈ lw_g := am_in 1818 (by decide +kernel) rfl
set_option maxRecDepth 100000 in
theorem Y_Mod_isSpot : am_Y M_Mod_isSpot 1 := ⟨am_in 1823 (by decide +kernel) rfl, In_Mod, ⟨by decide, by decide⟩, by decide +kernel, by decide⟩
set_option maxRecDepth 100000 in
theorem Vi_Mod_isSpot : Cond.instanceMethod M_Mod_isSpot.1 ∈ lw_g := am_in 1822 (by decide +kernel) rfl
set_option maxRecDepth 100000 in
theorem Vs_Mod_isSpot : Cond.selects M_Mod_isSpot.1.cls M_Mod_isSpot.1 M_Mod_isSpot.1 ∈ lw_g := am_in 93 (by decide +kernel) rfl
set_option maxRecDepth 100000 in
theorem Y_Mod_soonestOf : am_Y M_Mod_soonestOf 2 := ⟨am_in 1828 (by decide +kernel) rfl, In_Mod, ⟨by decide, by decide⟩, by decide +kernel, by decide⟩
set_option maxRecDepth 100000 in
theorem Vi_Mod_soonestOf : Cond.instanceMethod M_Mod_soonestOf.1 ∈ lw_g := am_in 1827 (by decide +kernel) rfl
set_option maxRecDepth 100000 in
theorem Vs_Mod_soonestOf : Cond.selects M_Mod_soonestOf.1.cls M_Mod_soonestOf.1 M_Mod_soonestOf.1 ∈ lw_g := am_in 94 (by decide +kernel) rfl
set_option maxRecDepth 100000 in
theorem Y_Mod_laysLets : am_Y M_Mod_laysLets 1 := ⟨am_in 1832 (by decide +kernel) rfl, In_Mod, ⟨by decide, by decide⟩, by decide +kernel, by decide⟩
set_option maxRecDepth 100000 in
theorem Vi_Mod_laysLets : Cond.instanceMethod M_Mod_laysLets.1 ∈ lw_g := am_in 1831 (by decide +kernel) rfl
set_option maxRecDepth 100000 in
theorem Vs_Mod_laysLets : Cond.selects M_Mod_laysLets.1.cls M_Mod_laysLets.1 M_Mod_laysLets.1 ∈ lw_g := am_in 95 (by decide +kernel) rfl
set_option maxRecDepth 100000 in
theorem Y_Mod_hoursTo : am_Y M_Mod_hoursTo 3 := ⟨am_in 1836 (by decide +kernel) rfl, In_Mod, ⟨by decide, by decide⟩, by decide +kernel, by decide⟩
set_option maxRecDepth 100000 in
theorem Vi_Mod_hoursTo : Cond.instanceMethod M_Mod_hoursTo.1 ∈ lw_g := am_in 1835 (by decide +kernel) rfl
set_option maxRecDepth 100000 in
theorem Vs_Mod_hoursTo : Cond.selects M_Mod_hoursTo.1.cls M_Mod_hoursTo.1 M_Mod_hoursTo.1 ∈ lw_g := am_in 96 (by decide +kernel) rfl
set_option maxRecDepth 100000 in
theorem Y_Mod_goesOn : am_Y M_Mod_goesOn 3 := ⟨am_in 1840 (by decide +kernel) rfl, In_Mod, ⟨by decide, by decide⟩, by decide +kernel, by decide⟩
set_option maxRecDepth 100000 in
theorem Vi_Mod_goesOn : Cond.instanceMethod M_Mod_goesOn.1 ∈ lw_g := am_in 1839 (by decide +kernel) rfl
set_option maxRecDepth 100000 in
theorem Vs_Mod_goesOn : Cond.selects M_Mod_goesOn.1.cls M_Mod_goesOn.1 M_Mod_goesOn.1 ∈ lw_g := am_in 97 (by decide +kernel) rfl
set_option maxRecDepth 100000 in
theorem Y_Mod_way : am_Y M_Mod_way 3 := ⟨am_in 1844 (by decide +kernel) rfl, In_Mod, ⟨by decide, by decide⟩, by decide +kernel, by decide⟩
set_option maxRecDepth 100000 in
theorem Vi_Mod_way : Cond.instanceMethod M_Mod_way.1 ∈ lw_g := am_in 1842 (by decide +kernel) rfl
set_option maxRecDepth 100000 in
theorem Vs_Mod_way : Cond.selects M_Mod_way.1.cls M_Mod_way.1 M_Mod_way.1 ∈ lw_g := am_in 1843 (by decide +kernel) rfl
set_option maxRecDepth 100000 in
theorem Y_Mod_laysWay : am_Y M_Mod_laysWay 2 := ⟨am_in 1848 (by decide +kernel) rfl, In_Mod, ⟨by decide, by decide⟩, by decide +kernel, by decide⟩
set_option maxRecDepth 100000 in
theorem Vi_Mod_laysWay : Cond.instanceMethod M_Mod_laysWay.1 ∈ lw_g := am_in 1847 (by decide +kernel) rfl
set_option maxRecDepth 100000 in
theorem Vs_Mod_laysWay : Cond.selects M_Mod_laysWay.1.cls M_Mod_laysWay.1 M_Mod_laysWay.1 ∈ lw_g := am_in 98 (by decide +kernel) rfl
set_option maxRecDepth 100000 in
theorem Y_Mod_ways : am_Y M_Mod_ways 3 := ⟨am_in 1852 (by decide +kernel) rfl, In_Mod, ⟨by decide, by decide⟩, by decide +kernel, by decide⟩
set_option maxRecDepth 100000 in
theorem Vi_Mod_ways : Cond.instanceMethod M_Mod_ways.1 ∈ lw_g := am_in 1850 (by decide +kernel) rfl
set_option maxRecDepth 100000 in
theorem Vs_Mod_ways : Cond.selects M_Mod_ways.1.cls M_Mod_ways.1 M_Mod_ways.1 ∈ lw_g := am_in 1851 (by decide +kernel) rfl
set_option maxRecDepth 100000 in
theorem Y_Mod_reach : am_Y M_Mod_reach 2 := ⟨am_in 1859 (by decide +kernel) rfl, In_Mod, ⟨by decide, by decide⟩, by decide +kernel, by decide⟩
set_option maxRecDepth 100000 in
theorem Vi_Mod_reach : Cond.instanceMethod M_Mod_reach.1 ∈ lw_g := am_in 1857 (by decide +kernel) rfl
set_option maxRecDepth 100000 in
theorem Vs_Mod_reach : Cond.selects M_Mod_reach.1.cls M_Mod_reach.1 M_Mod_reach.1 ∈ lw_g := am_in 1858 (by decide +kernel) rfl
set_option maxRecDepth 100000 in
theorem Y_Mod_reachOf : am_Y M_Mod_reachOf 2 := ⟨am_in 1864 (by decide +kernel) rfl, In_Mod, ⟨by decide, by decide⟩, by decide +kernel, by decide⟩
set_option maxRecDepth 100000 in
theorem Vi_Mod_reachOf : Cond.instanceMethod M_Mod_reachOf.1 ∈ lw_g := am_in 1863 (by decide +kernel) rfl
set_option maxRecDepth 100000 in
theorem Vs_Mod_reachOf : Cond.selects M_Mod_reachOf.1.cls M_Mod_reachOf.1 M_Mod_reachOf.1 ∈ lw_g := am_in 99 (by decide +kernel) rfl
set_option maxRecDepth 100000 in
theorem Y_Mod_meet : am_Y M_Mod_meet 2 := ⟨am_in 1868 (by decide +kernel) rfl, In_Mod, ⟨by decide, by decide⟩, by decide +kernel, by decide⟩
set_option maxRecDepth 100000 in
theorem Vi_Mod_meet : Cond.instanceMethod M_Mod_meet.1 ∈ lw_g := am_in 1866 (by decide +kernel) rfl
set_option maxRecDepth 100000 in
theorem Vs_Mod_meet : Cond.selects M_Mod_meet.1.cls M_Mod_meet.1 M_Mod_meet.1 ∈ lw_g := am_in 1867 (by decide +kernel) rfl
set_option maxRecDepth 100000 in
theorem Y_Mod_meetIn : am_Y M_Mod_meetIn 2 := ⟨am_in 1872 (by decide +kernel) rfl, In_Mod, ⟨by decide, by decide⟩, by decide +kernel, by decide⟩
set_option maxRecDepth 100000 in
theorem Vi_Mod_meetIn : Cond.instanceMethod M_Mod_meetIn.1 ∈ lw_g := am_in 1871 (by decide +kernel) rfl
set_option maxRecDepth 100000 in
theorem Vs_Mod_meetIn : Cond.selects M_Mod_meetIn.1.cls M_Mod_meetIn.1 M_Mod_meetIn.1 ∈ lw_g := am_in 100 (by decide +kernel) rfl
set_option maxRecDepth 100000 in
theorem Y_Mod_meetAt : am_Y M_Mod_meetAt 2 := ⟨am_in 1876 (by decide +kernel) rfl, In_Mod, ⟨by decide, by decide⟩, by decide +kernel, by decide⟩
set_option maxRecDepth 100000 in
theorem Vi_Mod_meetAt : Cond.instanceMethod M_Mod_meetAt.1 ∈ lw_g := am_in 1874 (by decide +kernel) rfl
set_option maxRecDepth 100000 in
theorem Vs_Mod_meetAt : Cond.selects M_Mod_meetAt.1.cls M_Mod_meetAt.1 M_Mod_meetAt.1 ∈ lw_g := am_in 1875 (by decide +kernel) rfl
set_option maxRecDepth 100000 in
theorem Y_Mod_inTime : am_Y M_Mod_inTime 0 := ⟨am_in 1880 (by decide +kernel) rfl, In_Mod, ⟨by decide, by decide⟩, by decide +kernel, by decide⟩
set_option maxRecDepth 100000 in
theorem Vi_Mod_inTime : Cond.instanceMethod M_Mod_inTime.1 ∈ lw_g := am_in 1878 (by decide +kernel) rfl
set_option maxRecDepth 100000 in
theorem Vs_Mod_inTime : Cond.selects M_Mod_inTime.1.cls M_Mod_inTime.1 M_Mod_inTime.1 ∈ lw_g := am_in 1879 (by decide +kernel) rfl
set_option maxRecDepth 100000 in
theorem Y_Mod_inTimeSet : am_Y M_Mod_inTimeSet 0 := ⟨am_in 1884 (by decide +kernel) rfl, In_Mod, ⟨by decide, by decide⟩, by decide +kernel, by decide⟩
set_option maxRecDepth 100000 in
theorem Vi_Mod_inTimeSet : Cond.instanceMethod M_Mod_inTimeSet.1 ∈ lw_g := am_in 1883 (by decide +kernel) rfl
set_option maxRecDepth 100000 in
theorem Vs_Mod_inTimeSet : Cond.selects M_Mod_inTimeSet.1.cls M_Mod_inTimeSet.1 M_Mod_inTimeSet.1 ∈ lw_g := am_in 101 (by decide +kernel) rfl
set_option maxRecDepth 100000 in
theorem Y_Mod_isErrand : am_Y M_Mod_isErrand 1 := ⟨am_in 1888 (by decide +kernel) rfl, In_Mod, ⟨by decide, by decide⟩, by decide +kernel, by decide⟩
set_option maxRecDepth 100000 in
theorem Vi_Mod_isErrand : Cond.instanceMethod M_Mod_isErrand.1 ∈ lw_g := am_in 1887 (by decide +kernel) rfl
set_option maxRecDepth 100000 in
theorem Vs_Mod_isErrand : Cond.selects M_Mod_isErrand.1.cls M_Mod_isErrand.1 M_Mod_isErrand.1 ∈ lw_g := am_in 102 (by decide +kernel) rfl
set_option maxRecDepth 100000 in
theorem Y_Mod_isInTime : am_Y M_Mod_isInTime 2 := ⟨am_in 1892 (by decide +kernel) rfl, In_Mod, ⟨by decide, by decide⟩, by decide +kernel, by decide⟩
set_option maxRecDepth 100000 in
theorem Vi_Mod_isInTime : Cond.instanceMethod M_Mod_isInTime.1 ∈ lw_g := am_in 1891 (by decide +kernel) rfl
set_option maxRecDepth 100000 in
theorem Vs_Mod_isInTime : Cond.selects M_Mod_isInTime.1.cls M_Mod_isInTime.1 M_Mod_isInTime.1 ∈ lw_g := am_in 103 (by decide +kernel) rfl
set_option maxRecDepth 100000 in
theorem Y_Mod_spare : am_Y M_Mod_spare 1 := ⟨am_in 1896 (by decide +kernel) rfl, In_Mod, ⟨by decide, by decide⟩, by decide +kernel, by decide⟩
set_option maxRecDepth 100000 in
theorem Vi_Mod_spare : Cond.instanceMethod M_Mod_spare.1 ∈ lw_g := am_in 1894 (by decide +kernel) rfl
set_option maxRecDepth 100000 in
theorem Vs_Mod_spare : Cond.selects M_Mod_spare.1.cls M_Mod_spare.1 M_Mod_spare.1 ∈ lw_g := am_in 1895 (by decide +kernel) rfl
set_option maxRecDepth 100000 in
theorem Y_Mod_needs : am_Y M_Mod_needs 1 := ⟨am_in 1900 (by decide +kernel) rfl, In_Mod, ⟨by decide, by decide⟩, by decide +kernel, by decide⟩
set_option maxRecDepth 100000 in
theorem Vi_Mod_needs : Cond.instanceMethod M_Mod_needs.1 ∈ lw_g := am_in 1898 (by decide +kernel) rfl
set_option maxRecDepth 100000 in
theorem Vs_Mod_needs : Cond.selects M_Mod_needs.1.cls M_Mod_needs.1 M_Mod_needs.1 ∈ lw_g := am_in 1899 (by decide +kernel) rfl
set_option maxRecDepth 100000 in
theorem Y_Mod_moves : am_Y M_Mod_moves 0 := ⟨am_in 1904 (by decide +kernel) rfl, In_Mod, ⟨by decide, by decide⟩, by decide +kernel, by decide⟩
set_option maxRecDepth 100000 in
theorem Vi_Mod_moves : Cond.instanceMethod M_Mod_moves.1 ∈ lw_g := am_in 1902 (by decide +kernel) rfl
set_option maxRecDepth 100000 in
theorem Vs_Mod_moves : Cond.selects M_Mod_moves.1.cls M_Mod_moves.1 M_Mod_moves.1 ∈ lw_g := am_in 1903 (by decide +kernel) rfl
set_option maxRecDepth 100000 in
theorem Y_Mod_movesNow : am_Y M_Mod_movesNow 0 := ⟨am_in 1908 (by decide +kernel) rfl, In_Mod, ⟨by decide, by decide⟩, by decide +kernel, by decide⟩
set_option maxRecDepth 100000 in
theorem Vi_Mod_movesNow : Cond.instanceMethod M_Mod_movesNow.1 ∈ lw_g := am_in 1907 (by decide +kernel) rfl
set_option maxRecDepth 100000 in
theorem Vs_Mod_movesNow : Cond.selects M_Mod_movesNow.1.cls M_Mod_movesNow.1 M_Mod_movesNow.1 ∈ lw_g := am_in 104 (by decide +kernel) rfl
set_option maxRecDepth 100000 in
theorem Y_Mod_best : am_Y M_Mod_best 1 := ⟨am_in 1912 (by decide +kernel) rfl, In_Mod, ⟨by decide, by decide⟩, by decide +kernel, by decide⟩
set_option maxRecDepth 100000 in
theorem Vi_Mod_best : Cond.instanceMethod M_Mod_best.1 ∈ lw_g := am_in 1910 (by decide +kernel) rfl
set_option maxRecDepth 100000 in
theorem Vs_Mod_best : Cond.selects M_Mod_best.1.cls M_Mod_best.1 M_Mod_best.1 ∈ lw_g := am_in 1911 (by decide +kernel) rfl
set_option maxRecDepth 100000 in
theorem Y_Mod_laysWeeks : am_Y M_Mod_laysWeeks 0 := ⟨am_in 1916 (by decide +kernel) rfl, In_Mod, ⟨by decide, by decide⟩, by decide +kernel, by decide⟩
set_option maxRecDepth 100000 in
theorem Vi_Mod_laysWeeks : Cond.instanceMethod M_Mod_laysWeeks.1 ∈ lw_g := am_in 1915 (by decide +kernel) rfl
set_option maxRecDepth 100000 in
theorem Vs_Mod_laysWeeks : Cond.selects M_Mod_laysWeeks.1.cls M_Mod_laysWeeks.1 M_Mod_laysWeeks.1 ∈ lw_g := am_in 105 (by decide +kernel) rfl
set_option maxRecDepth 100000 in
theorem Y_Mod_keepsLets : am_Y M_Mod_keepsLets 0 := ⟨am_in 1920 (by decide +kernel) rfl, In_Mod, ⟨by decide, by decide⟩, by decide +kernel, by decide⟩
set_option maxRecDepth 100000 in
theorem Vi_Mod_keepsLets : Cond.instanceMethod M_Mod_keepsLets.1 ∈ lw_g := am_in 1919 (by decide +kernel) rfl
set_option maxRecDepth 100000 in
theorem Vs_Mod_keepsLets : Cond.selects M_Mod_keepsLets.1.cls M_Mod_keepsLets.1 M_Mod_keepsLets.1 ∈ lw_g := am_in 106 (by decide +kernel) rfl
set_option maxRecDepth 100000 in
theorem Y_Mod_goesWeeks : am_Y M_Mod_goesWeeks 1 := ⟨am_in 1924 (by decide +kernel) rfl, In_Mod, ⟨by decide, by decide⟩, by decide +kernel, by decide⟩
set_option maxRecDepth 100000 in
theorem Vi_Mod_goesWeeks : Cond.instanceMethod M_Mod_goesWeeks.1 ∈ lw_g := am_in 1923 (by decide +kernel) rfl
set_option maxRecDepth 100000 in
theorem Vs_Mod_goesWeeks : Cond.selects M_Mod_goesWeeks.1.cls M_Mod_goesWeeks.1 M_Mod_goesWeeks.1 ∈ lw_g := am_in 107 (by decide +kernel) rfl
set_option maxRecDepth 100000 in
theorem Y_Mod_laysWeek : am_Y M_Mod_laysWeek 0 := ⟨am_in 1928 (by decide +kernel) rfl, In_Mod, ⟨by decide, by decide⟩, by decide +kernel, by decide⟩
set_option maxRecDepth 100000 in
theorem Vi_Mod_laysWeek : Cond.instanceMethod M_Mod_laysWeek.1 ∈ lw_g := am_in 1927 (by decide +kernel) rfl
set_option maxRecDepth 100000 in
theorem Vs_Mod_laysWeek : Cond.selects M_Mod_laysWeek.1.cls M_Mod_laysWeek.1 M_Mod_laysWeek.1 ∈ lw_g := am_in 108 (by decide +kernel) rfl
set_option maxRecDepth 100000 in
theorem Y_Mod_inTimeMany : am_Y M_Mod_inTimeMany 0 := ⟨am_in 1932 (by decide +kernel) rfl, In_Mod, ⟨by decide, by decide⟩, by decide +kernel, by decide⟩
set_option maxRecDepth 100000 in
theorem Vi_Mod_inTimeMany : Cond.instanceMethod M_Mod_inTimeMany.1 ∈ lw_g := am_in 1931 (by decide +kernel) rfl
set_option maxRecDepth 100000 in
theorem Vs_Mod_inTimeMany : Cond.selects M_Mod_inTimeMany.1.cls M_Mod_inTimeMany.1 M_Mod_inTimeMany.1 ∈ lw_g := am_in 109 (by decide +kernel) rfl
set_option maxRecDepth 100000 in
theorem Y_Mod_takesLets : am_Y M_Mod_takesLets 1 := ⟨am_in 1936 (by decide +kernel) rfl, In_Mod, ⟨by decide, by decide⟩, by decide +kernel, by decide⟩
set_option maxRecDepth 100000 in
theorem Vi_Mod_takesLets : Cond.instanceMethod M_Mod_takesLets.1 ∈ lw_g := am_in 1935 (by decide +kernel) rfl
set_option maxRecDepth 100000 in
theorem Vs_Mod_takesLets : Cond.selects M_Mod_takesLets.1.cls M_Mod_takesLets.1 M_Mod_takesLets.1 ∈ lw_g := am_in 110 (by decide +kernel) rfl
set_option maxRecDepth 100000 in
theorem Y_Mod_errandsMany : am_Y M_Mod_errandsMany 0 := ⟨am_in 1940 (by decide +kernel) rfl, In_Mod, ⟨by decide, by decide⟩, by decide +kernel, by decide⟩
set_option maxRecDepth 100000 in
theorem Vi_Mod_errandsMany : Cond.instanceMethod M_Mod_errandsMany.1 ∈ lw_g := am_in 1939 (by decide +kernel) rfl
set_option maxRecDepth 100000 in
theorem Vs_Mod_errandsMany : Cond.selects M_Mod_errandsMany.1.cls M_Mod_errandsMany.1 M_Mod_errandsMany.1 ∈ lw_g := am_in 111 (by decide +kernel) rfl
set_option maxRecDepth 100000 in
theorem Y_Mod_weeks : am_Y M_Mod_weeks 0 := ⟨am_in 1944 (by decide +kernel) rfl, In_Mod, ⟨by decide, by decide⟩, by decide +kernel, by decide⟩
set_option maxRecDepth 100000 in
theorem Vi_Mod_weeks : Cond.instanceMethod M_Mod_weeks.1 ∈ lw_g := am_in 1942 (by decide +kernel) rfl
set_option maxRecDepth 100000 in
theorem Vs_Mod_weeks : Cond.selects M_Mod_weeks.1.cls M_Mod_weeks.1 M_Mod_weeks.1 ∈ lw_g := am_in 1943 (by decide +kernel) rfl
set_option maxRecDepth 100000 in
theorem Y_Mod_change : am_Y M_Mod_change 0 := ⟨am_in 1948 (by decide +kernel) rfl, In_Mod, ⟨by decide, by decide⟩, by decide +kernel, by decide⟩
set_option maxRecDepth 100000 in
theorem Vi_Mod_change : Cond.instanceMethod M_Mod_change.1 ∈ lw_g := am_in 1946 (by decide +kernel) rfl
set_option maxRecDepth 100000 in
theorem Vs_Mod_change : Cond.selects M_Mod_change.1.cls M_Mod_change.1 M_Mod_change.1 ∈ lw_g := am_in 1947 (by decide +kernel) rfl
set_option maxRecDepth 100000 in
theorem Y_Mod_shift : am_Y M_Mod_shift 0 := ⟨am_in 1952 (by decide +kernel) rfl, In_Mod, ⟨by decide, by decide⟩, by decide +kernel, by decide⟩
set_option maxRecDepth 100000 in
theorem Vi_Mod_shift : Cond.instanceMethod M_Mod_shift.1 ∈ lw_g := am_in 1950 (by decide +kernel) rfl
set_option maxRecDepth 100000 in
theorem Vs_Mod_shift : Cond.selects M_Mod_shift.1.cls M_Mod_shift.1 M_Mod_shift.1 ∈ lw_g := am_in 1951 (by decide +kernel) rfl
set_option maxRecDepth 100000 in
theorem Y_Mod_fits : am_Y M_Mod_fits 3 := ⟨am_in 1956 (by decide +kernel) rfl, In_Mod, ⟨by decide, by decide⟩, by decide +kernel, by decide⟩
set_option maxRecDepth 100000 in
theorem Vi_Mod_fits : Cond.instanceMethod M_Mod_fits.1 ∈ lw_g := am_in 1954 (by decide +kernel) rfl
set_option maxRecDepth 100000 in
theorem Vs_Mod_fits : Cond.selects M_Mod_fits.1.cls M_Mod_fits.1 M_Mod_fits.1 ∈ lw_g := am_in 1955 (by decide +kernel) rfl
set_option maxRecDepth 100000 in
theorem Y_Mod_noSeen : am_Y M_Mod_noSeen 2 := ⟨am_in 1960 (by decide +kernel) rfl, In_Mod, ⟨by decide, by decide⟩, by decide +kernel, by decide⟩
set_option maxRecDepth 100000 in
theorem Vi_Mod_noSeen : Cond.instanceMethod M_Mod_noSeen.1 ∈ lw_g := am_in 1959 (by decide +kernel) rfl
set_option maxRecDepth 100000 in
theorem Vs_Mod_noSeen : Cond.selects M_Mod_noSeen.1.cls M_Mod_noSeen.1 M_Mod_noSeen.1 ∈ lw_g := am_in 112 (by decide +kernel) rfl
set_option maxRecDepth 100000 in
theorem Y_Mod_fitting : am_Y M_Mod_fitting 3 := ⟨am_in 1964 (by decide +kernel) rfl, In_Mod, ⟨by decide, by decide⟩, by decide +kernel, by decide⟩
set_option maxRecDepth 100000 in
theorem Vi_Mod_fitting : Cond.instanceMethod M_Mod_fitting.1 ∈ lw_g := am_in 1963 (by decide +kernel) rfl
set_option maxRecDepth 100000 in
theorem Vs_Mod_fitting : Cond.selects M_Mod_fitting.1.cls M_Mod_fitting.1 M_Mod_fitting.1 ∈ lw_g := am_in 113 (by decide +kernel) rfl
set_option maxRecDepth 100000 in
theorem Y_Mod_oddIn : am_Y M_Mod_oddIn 1 := ⟨am_in 1968 (by decide +kernel) rfl, In_Mod, ⟨by decide, by decide⟩, by decide +kernel, by decide⟩
set_option maxRecDepth 100000 in
theorem Vi_Mod_oddIn : Cond.instanceMethod M_Mod_oddIn.1 ∈ lw_g := am_in 1967 (by decide +kernel) rfl
set_option maxRecDepth 100000 in
theorem Vs_Mod_oddIn : Cond.selects M_Mod_oddIn.1.cls M_Mod_oddIn.1 M_Mod_oddIn.1 ∈ lw_g := am_in 114 (by decide +kernel) rfl
set_option maxRecDepth 100000 in
theorem Y_Mod_surest : am_Y M_Mod_surest 2 := ⟨am_in 1972 (by decide +kernel) rfl, In_Mod, ⟨by decide, by decide⟩, by decide +kernel, by decide⟩
set_option maxRecDepth 100000 in
theorem Vi_Mod_surest : Cond.instanceMethod M_Mod_surest.1 ∈ lw_g := am_in 1970 (by decide +kernel) rfl
set_option maxRecDepth 100000 in
theorem Vs_Mod_surest : Cond.selects M_Mod_surest.1.cls M_Mod_surest.1 M_Mod_surest.1 ∈ lw_g := am_in 1971 (by decide +kernel) rfl
set_option maxRecDepth 100000 in
theorem Y_Mod_bitsOf : am_Y M_Mod_bitsOf 1 := ⟨am_in 1975 (by decide +kernel) rfl, In_Mod, ⟨by decide, by decide⟩, by decide +kernel, by decide⟩
set_option maxRecDepth 100000 in
theorem St_Mod_bitsOf : Cond.static M_Mod_bitsOf.1 ∈ lw_g := am_in 1974 (by decide +kernel) rfl
set_option maxRecDepth 100000 in
theorem Y_Mod_odd : am_Y M_Mod_odd 2 := ⟨am_in 1979 (by decide +kernel) rfl, In_Mod, ⟨by decide, by decide⟩, by decide +kernel, by decide⟩
set_option maxRecDepth 100000 in
theorem Vi_Mod_odd : Cond.instanceMethod M_Mod_odd.1 ∈ lw_g := am_in 1977 (by decide +kernel) rfl
set_option maxRecDepth 100000 in
theorem Vs_Mod_odd : Cond.selects M_Mod_odd.1.cls M_Mod_odd.1 M_Mod_odd.1 ∈ lw_g := am_in 1978 (by decide +kernel) rfl
set_option maxRecDepth 100000 in
theorem Y_Mod_chance : am_Y M_Mod_chance 4 := ⟨am_in 1983 (by decide +kernel) rfl, In_Mod, ⟨by decide, by decide⟩, by decide +kernel, by decide⟩
set_option maxRecDepth 100000 in
theorem Vi_Mod_chance : Cond.instanceMethod M_Mod_chance.1 ∈ lw_g := am_in 1981 (by decide +kernel) rfl
set_option maxRecDepth 100000 in
theorem Vs_Mod_chance : Cond.selects M_Mod_chance.1.cls M_Mod_chance.1 M_Mod_chance.1 ∈ lw_g := am_in 1982 (by decide +kernel) rfl
set_option maxRecDepth 100000 in
theorem Y_Mod_chanceOf : am_Y M_Mod_chanceOf 3 := ⟨am_in 1987 (by decide +kernel) rfl, In_Mod, ⟨by decide, by decide⟩, by decide +kernel, by decide⟩
set_option maxRecDepth 100000 in
theorem Vi_Mod_chanceOf : Cond.instanceMethod M_Mod_chanceOf.1 ∈ lw_g := am_in 1986 (by decide +kernel) rfl
set_option maxRecDepth 100000 in
theorem Vs_Mod_chanceOf : Cond.selects M_Mod_chanceOf.1.cls M_Mod_chanceOf.1 M_Mod_chanceOf.1 ∈ lw_g := am_in 115 (by decide +kernel) rfl
set_option maxRecDepth 100000 in
theorem Y_Mod_bestOn : am_Y M_Mod_bestOn 3 := ⟨am_in 1991 (by decide +kernel) rfl, In_Mod, ⟨by decide, by decide⟩, by decide +kernel, by decide⟩
set_option maxRecDepth 100000 in
theorem Vi_Mod_bestOn : Cond.instanceMethod M_Mod_bestOn.1 ∈ lw_g := am_in 1990 (by decide +kernel) rfl
set_option maxRecDepth 100000 in
theorem Vs_Mod_bestOn : Cond.selects M_Mod_bestOn.1.cls M_Mod_bestOn.1 M_Mod_bestOn.1 ∈ lw_g := am_in 116 (by decide +kernel) rfl
set_option maxRecDepth 100000 in
theorem Y_Mod_tens : am_Y M_Mod_tens 1 := ⟨am_in 1994 (by decide +kernel) rfl, In_Mod, ⟨by decide, by decide⟩, by decide +kernel, by decide⟩
set_option maxRecDepth 100000 in
theorem St_Mod_tens : Cond.static M_Mod_tens.1 ∈ lw_g := am_in 1993 (by decide +kernel) rfl
set_option maxRecDepth 100000 in
theorem Y_Mod_common : am_Y M_Mod_common 2 := ⟨am_in 1997 (by decide +kernel) rfl, In_Mod, ⟨by decide, by decide⟩, by decide +kernel, by decide⟩
set_option maxRecDepth 100000 in
theorem St_Mod_common : Cond.static M_Mod_common.1 ∈ lw_g := am_in 1996 (by decide +kernel) rfl
set_option maxRecDepth 100000 in
theorem Y_Mod_likely : am_Y M_Mod_likely 3 := ⟨am_in 2001 (by decide +kernel) rfl, In_Mod, ⟨by decide, by decide⟩, by decide +kernel, by decide⟩
set_option maxRecDepth 100000 in
theorem Vi_Mod_likely : Cond.instanceMethod M_Mod_likely.1 ∈ lw_g := am_in 1999 (by decide +kernel) rfl
set_option maxRecDepth 100000 in
theorem Vs_Mod_likely : Cond.selects M_Mod_likely.1.cls M_Mod_likely.1 M_Mod_likely.1 ∈ lw_g := am_in 2000 (by decide +kernel) rfl
set_option maxRecDepth 100000 in
theorem Y_Mod_numbers : am_Y M_Mod_numbers 3 := ⟨am_in 2005 (by decide +kernel) rfl, In_Mod, ⟨by decide, by decide⟩, by decide +kernel, by decide⟩
set_option maxRecDepth 100000 in
theorem Vi_Mod_numbers : Cond.instanceMethod M_Mod_numbers.1 ∈ lw_g := am_in 2003 (by decide +kernel) rfl
set_option maxRecDepth 100000 in
theorem Vs_Mod_numbers : Cond.selects M_Mod_numbers.1.cls M_Mod_numbers.1 M_Mod_numbers.1 ∈ lw_g := am_in 2004 (by decide +kernel) rfl
set_option maxRecDepth 100000 in
theorem Y_Mod_write : am_Y M_Mod_write 3 := ⟨am_in 2009 (by decide +kernel) rfl, In_Mod, ⟨by decide, by decide⟩, by decide +kernel, by decide⟩
set_option maxRecDepth 100000 in
theorem Vi_Mod_write : Cond.instanceMethod M_Mod_write.1 ∈ lw_g := am_in 2007 (by decide +kernel) rfl
set_option maxRecDepth 100000 in
theorem Vs_Mod_write : Cond.selects M_Mod_write.1.cls M_Mod_write.1 M_Mod_write.1 ∈ lw_g := am_in 2008 (by decide +kernel) rfl
set_option maxRecDepth 100000 in
theorem Y_Mod_cut : am_Y M_Mod_cut 2 := ⟨am_in 2013 (by decide +kernel) rfl, In_Mod, ⟨by decide, by decide⟩, by decide +kernel, by decide⟩
set_option maxRecDepth 100000 in
theorem St_Mod_cut : Cond.static M_Mod_cut.1 ∈ lw_g := am_in 2012 (by decide +kernel) rfl
set_option maxRecDepth 100000 in
theorem Y_Mod_lists : am_Y M_Mod_lists 3 := ⟨am_in 2017 (by decide +kernel) rfl, In_Mod, ⟨by decide, by decide⟩, by decide +kernel, by decide⟩
set_option maxRecDepth 100000 in
theorem Vi_Mod_lists : Cond.instanceMethod M_Mod_lists.1 ∈ lw_g := am_in 2015 (by decide +kernel) rfl
set_option maxRecDepth 100000 in
theorem Vs_Mod_lists : Cond.selects M_Mod_lists.1.cls M_Mod_lists.1 M_Mod_lists.1 ∈ lw_g := am_in 2016 (by decide +kernel) rfl
set_option maxRecDepth 100000 in
theorem Y_Mod_image : am_Y M_Mod_image 1 := ⟨am_in 2021 (by decide +kernel) rfl, In_Mod, ⟨by decide, by decide⟩, by decide +kernel, by decide⟩
set_option maxRecDepth 100000 in
theorem Vi_Mod_image : Cond.instanceMethod M_Mod_image.1 ∈ lw_g := am_in 2019 (by decide +kernel) rfl
set_option maxRecDepth 100000 in
theorem Vs_Mod_image : Cond.selects M_Mod_image.1.cls M_Mod_image.1 M_Mod_image.1 ∈ lw_g := am_in 2020 (by decide +kernel) rfl
set_option maxRecDepth 100000 in
theorem Y_Mod_restore : am_Y M_Mod_restore 1 := ⟨am_in 2025 (by decide +kernel) rfl, In_Mod, ⟨by decide, by decide⟩, by decide +kernel, by decide⟩
set_option maxRecDepth 100000 in
theorem Vi_Mod_restore : Cond.instanceMethod M_Mod_restore.1 ∈ lw_g := am_in 2023 (by decide +kernel) rfl
set_option maxRecDepth 100000 in
theorem Vs_Mod_restore : Cond.selects M_Mod_restore.1.cls M_Mod_restore.1 M_Mod_restore.1 ∈ lw_g := am_in 2024 (by decide +kernel) rfl
set_option maxRecDepth 100000 in
theorem Y_Mod_count : am_Y M_Mod_count 1 := ⟨am_in 2029 (by decide +kernel) rfl, In_Mod, ⟨by decide, by decide⟩, by decide +kernel, by decide⟩
set_option maxRecDepth 100000 in
theorem Vi_Mod_count : Cond.instanceMethod M_Mod_count.1 ∈ lw_g := am_in 2027 (by decide +kernel) rfl
set_option maxRecDepth 100000 in
theorem Vs_Mod_count : Cond.selects M_Mod_count.1.cls M_Mod_count.1 M_Mod_count.1 ∈ lw_g := am_in 2028 (by decide +kernel) rfl
set_option maxRecDepth 100000 in
theorem Y_Mod_errandsSet : am_Y M_Mod_errandsSet 0 := ⟨am_in 2033 (by decide +kernel) rfl, In_Mod, ⟨by decide, by decide⟩, by decide +kernel, by decide⟩
set_option maxRecDepth 100000 in
theorem Vi_Mod_errandsSet : Cond.instanceMethod M_Mod_errandsSet.1 ∈ lw_g := am_in 2032 (by decide +kernel) rfl
set_option maxRecDepth 100000 in
theorem Vs_Mod_errandsSet : Cond.selects M_Mod_errandsSet.1.cls M_Mod_errandsSet.1 M_Mod_errandsSet.1 ∈ lw_g := am_in 117 (by decide +kernel) rfl
set_option maxRecDepth 100000 in
theorem Y_Mod_onSpan : am_Y M_Mod_onSpan 0 := ⟨am_in 2037 (by decide +kernel) rfl, In_Mod, ⟨by decide, by decide⟩, by decide +kernel, by decide⟩
set_option maxRecDepth 100000 in
theorem Vi_Mod_onSpan : Cond.instanceMethod M_Mod_onSpan.1 ∈ lw_g := am_in 2036 (by decide +kernel) rfl
set_option maxRecDepth 100000 in
theorem Vs_Mod_onSpan : Cond.selects M_Mod_onSpan.1.cls M_Mod_onSpan.1 M_Mod_onSpan.1 ∈ lw_g := am_in 118 (by decide +kernel) rfl
