def RJ9 : String := "java/lang/Math"
def RX11 : String := "GlassVows$Word"
def RX0 : String := "GlassVows$1"
def RJx29ce0 : String := "java/lang/Enum"
def RJ10 : String := "java/lang/System"
/-! names and decode rows (printed) -/
abbrev cX1_init : ByteArray := prog_3_method_1_code
def yX1_init : MethodName := ⟨RX1, "<init>", "(LGlassVows$Parish;LGlassVows$Life;)V"⟩
abbrev cX1_look : ByteArray := prog_3_method_2_code
def yX1_look : MethodName := ⟨RX1, "look", "(I)V"⟩
abbrev cX1_mood : ByteArray := prog_3_method_3_code
def yX1_mood : MethodName := ⟨RX1, "mood", "(III)I"⟩
abbrev cX1_start : ByteArray := prog_3_method_4_code
def yX1_start : MethodName := ⟨RX1, "start", "()I"⟩
abbrev cX1_grains : ByteArray := prog_3_method_5_code
def yX1_grains : MethodName := ⟨RX1, "grains", "()I"⟩
abbrev cX1_grace : ByteArray := prog_3_method_6_code
def yX1_grace : MethodName := ⟨RX1, "grace", "()I"⟩
abbrev cX1_waited : ByteArray := prog_3_method_7_code
def yX1_waited : MethodName := ⟨RX1, "waited", "()I"⟩
abbrev cX1_isSomeoneWilling : ByteArray := prog_3_method_8_code
def yX1_isSomeoneWilling : MethodName := ⟨RX1, "isSomeoneWilling", "(I)Z"⟩
abbrev cX1_has : ByteArray := prog_3_method_9_code
def yX1_has : MethodName := ⟨RX1, "has", "(II)Z"⟩
abbrev cX1_areBothWilling : ByteArray := prog_3_method_10_code
def yX1_areBothWilling : MethodName := ⟨RX1, "areBothWilling", "(I)Z"⟩
abbrev cX1_endNow : ByteArray := prog_3_method_11_code
def yX1_endNow : MethodName := ⟨RX1, "endNow", "()I"⟩
abbrev cX1_endFrom : ByteArray := prog_3_method_12_code
def yX1_endFrom : MethodName := ⟨RX1, "endFrom", "(II)I"⟩
abbrev cX1_lapseHour : ByteArray := prog_3_method_13_code
def yX1_lapseHour : MethodName := ⟨RX1, "lapseHour", "(III)I"⟩
abbrev cX1_weighGrains : ByteArray := prog_3_method_14_code
def yX1_weighGrains : MethodName := ⟨RX1, "weighGrains", "()V"⟩
abbrev cX1_findLastTurner : ByteArray := prog_3_method_15_code
def yX1_findLastTurner : MethodName := ⟨RX1, "findLastTurner", "()V"⟩
abbrev cX2_init : ByteArray := prog_4_method_1_code
def yX2_init : MethodName := ⟨RX2, "<init>", "()V"⟩
abbrev cX2_copyFrom : ByteArray := prog_4_method_2_code
def yX2_copyFrom : MethodName := ⟨RX2, "copyFrom", "(LGlassVows$Goods;)V"⟩
abbrev cX2_allOf : ByteArray := prog_4_method_3_code
def yX2_allOf : MethodName := ⟨RX2, "allOf", "(I)I"⟩
abbrev cX2_bestParting : ByteArray := prog_4_method_4_code
def yX2_bestParting : MethodName := ⟨RX2, "bestParting", "(I)I"⟩
abbrev cX2_lesserSum : ByteArray := prog_4_method_5_code
def yX2_lesserSum : MethodName := ⟨RX2, "lesserSum", "(II)I"⟩
abbrev cX3_init : ByteArray := prog_5_method_1_code
def yX3_init : MethodName := ⟨RX3, "<init>", "(LGlassVows$Parish;)V"⟩
abbrev cX3_begin : ByteArray := prog_5_method_2_code
def yX3_begin : MethodName := ⟨RX3, "begin", "()V"⟩
abbrev cX3_copyFrom : ByteArray := prog_5_method_3_code
def yX3_copyFrom : MethodName := ⟨RX3, "copyFrom", "(LGlassVows$Life;)V"⟩
abbrev cX3_isWoken : ByteArray := prog_5_method_4_code
def yX3_isWoken : MethodName := ⟨RX3, "isWoken", "(I)Z"⟩
abbrev cX3_isAwake : ByteArray := prog_5_method_5_code
def yX3_isAwake : MethodName := ⟨RX3, "isAwake", "(I)Z"⟩
abbrev cX3_isWilling : ByteArray := prog_5_method_6_code
def yX3_isWilling : MethodName := ⟨RX3, "isWilling", "(I)Z"⟩
abbrev cX3_isLapsed : ByteArray := prog_5_method_7_code
def yX3_isLapsed : MethodName := ⟨RX3, "isLapsed", "(I)Z"⟩
abbrev cX3_awakeBits : ByteArray := prog_5_method_8_code
def yX3_awakeBits : MethodName := ⟨RX3, "awakeBits", "()I"⟩
abbrev cX3_sumOverGlasses : ByteArray := prog_5_method_9_code
def yX3_sumOverGlasses : MethodName := ⟨RX3, "sumOverGlasses", "([I)I"⟩
abbrev cX3_hoursOf : ByteArray := prog_5_method_10_code
def yX3_hoursOf : MethodName := ⟨RX3, "hoursOf", "(I)I"⟩
abbrev cX3_runsAt : ByteArray := prog_5_method_11_code
def yX3_runsAt : MethodName := ⟨RX3, "runsAt", "(II)I"⟩
abbrev cX3_whyNot : ByteArray := prog_5_method_12_code
def yX3_whyNot : MethodName := ⟨RX3, "whyNot", "(III)I"⟩
abbrev cX3_isWedStill : ByteArray := prog_5_method_13_code
def yX3_isWedStill : MethodName := ⟨RX3, "isWedStill", "(I)Z"⟩
abbrev cX3_whyNotTurn : ByteArray := prog_5_method_14_code
def yX3_whyNotTurn : MethodName := ⟨RX3, "whyNotTurn", "(I)I"⟩
abbrev cX3_whyNotWoo : ByteArray := prog_5_method_15_code
def yX3_whyNotWoo : MethodName := ⟨RX3, "whyNotWoo", "(I)I"⟩
abbrev cX3_whyNotTilt : ByteArray := prog_5_method_16_code
def yX3_whyNotTilt : MethodName := ⟨RX3, "whyNotTilt", "(II)I"⟩
abbrev cX3_carryOut : ByteArray := prog_5_method_17_code
def yX3_carryOut : MethodName := ⟨RX3, "carryOut", "(III)V"⟩
abbrev cX3_turnOver : ByteArray := prog_5_method_18_code
def yX3_turnOver : MethodName := ⟨RX3, "turnOver", "(II)V"⟩
abbrev cX3_endear : ByteArray := prog_5_method_19_code
def yX3_endear : MethodName := ⟨RX3, "endear", "(II)V"⟩
abbrev cX3_passHours : ByteArray := prog_5_method_20_code
def yX3_passHours : MethodName := ⟨RX3, "passHours", "(I)V"⟩
abbrev cX3_passHour : ByteArray := prog_5_method_21_code
def yX3_passHour : MethodName := ⟨RX3, "passHour", "()V"⟩
abbrev cX3_passHourOf : ByteArray := prog_5_method_22_code
def yX3_passHourOf : MethodName := ⟨RX3, "passHourOf", "(I)V"⟩
abbrev cX3_drawHours : ByteArray := prog_5_method_23_code
def yX3_drawHours : MethodName := ⟨RX3, "drawHours", "(II)V"⟩
abbrev cX3_drawForPerson : ByteArray := prog_5_method_24_code
def yX3_drawForPerson : MethodName := ⟨RX3, "drawForPerson", "(II)I"⟩
abbrev cX3_drawForGlass : ByteArray := prog_5_method_25_code
def yX3_drawForGlass : MethodName := ⟨RX3, "drawForGlass", "(II)I"⟩
abbrev cX3_nextSeed : ByteArray := prog_5_method_26_code
def yX3_nextSeed : MethodName := ⟨RX3, "nextSeed", "(I)I"⟩
abbrev cX3_doIfCan : ByteArray := prog_5_method_27_code
def yX3_doIfCan : MethodName := ⟨RX3, "doIfCan", "(III)V"⟩
abbrev cX4_init : ByteArray := prog_6_method_1_code
def yX4_init : MethodName := ⟨RX4, "<init>", "()V"⟩
abbrev cX4_forget : ByteArray := prog_6_method_2_code
def yX4_forget : MethodName := ⟨RX4, "forget", "()V"⟩
abbrev cX4_copyFrom : ByteArray := prog_6_method_3_code
def yX4_copyFrom : MethodName := ⟨RX4, "copyFrom", "(LGlassVows$Parish;)V"⟩
abbrev cX4_hasPerson : ByteArray := prog_6_method_4_code
def yX4_hasPerson : MethodName := ⟨RX4, "hasPerson", "(I)Z"⟩
abbrev cX4_hasGlass : ByteArray := prog_6_method_5_code
def yX4_hasGlass : MethodName := ⟨RX4, "hasGlass", "(I)Z"⟩
abbrev cX4_personNamed : ByteArray := prog_6_method_6_code
def yX4_personNamed : MethodName := ⟨RX4, "personNamed", "(J)I"⟩
abbrev cX4_glassNamed : ByteArray := prog_6_method_7_code
def yX4_glassNamed : MethodName := ⟨RX4, "glassNamed", "(J)I"⟩
abbrev cX4_isTold : ByteArray := prog_6_method_8_code
def yX4_isTold : MethodName := ⟨RX4, "isTold", "(J)Z"⟩
abbrev cX4_placeOf : ByteArray := prog_6_method_9_code
def yX4_placeOf : MethodName := ⟨RX4, "placeOf", "([JIJ)I"⟩
abbrev cX4_glassOf : ByteArray := prog_6_method_10_code
def yX4_glassOf : MethodName := ⟨RX4, "glassOf", "(I)I"⟩
abbrev cX4_otherOf : ByteArray := prog_6_method_11_code
def yX4_otherOf : MethodName := ⟨RX4, "otherOf", "(I)I"⟩
abbrev cX4_isDamp : ByteArray := prog_6_method_12_code
def yX4_isDamp : MethodName := ⟨RX4, "isDamp", "(I)Z"⟩
abbrev cX4_isUp : ByteArray := prog_6_method_13_code
def yX4_isUp : MethodName := ⟨RX4, "isUp", "(II)Z"⟩
abbrev cX4_fondNextDay : ByteArray := prog_6_method_14_code
def yX4_fondNextDay : MethodName := ⟨RX4, "fondNextDay", "(II)I"⟩
abbrev cX5_init : ByteArray := prog_7_method_1_code
def yX5_init : MethodName := ⟨RX5, "<init>", "(LGlassVows$Tape;LGlassVows$Parish;)V"⟩
abbrev cX5_read : ByteArray := prog_7_method_2_code
def yX5_read : MethodName := ⟨RX5, "read", "()I"⟩
abbrev cX5_readLine : ByteArray := prog_7_method_3_code
def yX5_readLine : MethodName := ⟨RX5, "readLine", "()Z"⟩
abbrev cX5_takeNewName : ByteArray := prog_7_method_4_code
def yX5_takeNewName : MethodName := ⟨RX5, "takeNewName", "()Z"⟩
abbrev cX5_takePerson : ByteArray := prog_7_method_5_code
def yX5_takePerson : MethodName := ⟨RX5, "takePerson", "()I"⟩
abbrev cX5_readPerson : ByteArray := prog_7_method_6_code
def yX5_readPerson : MethodName := ⟨RX5, "readPerson", "()Z"⟩
abbrev cX5_readWarmth : ByteArray := prog_7_method_7_code
def yX5_readWarmth : MethodName := ⟨RX5, "readWarmth", "([I)Z"⟩
abbrev cX5_readGlass : ByteArray := prog_7_method_8_code
def yX5_readGlass : MethodName := ⟨RX5, "readGlass", "()Z"⟩
abbrev cX5_readPair : ByteArray := prog_7_method_9_code
def yX5_readPair : MethodName := ⟨RX5, "readPair", "(I)Z"⟩
abbrev cX5_readDamp : ByteArray := prog_7_method_10_code
def yX5_readDamp : MethodName := ⟨RX5, "readDamp", "()Z"⟩
abbrev cX5_readGood : ByteArray := prog_7_method_11_code
def yX5_readGood : MethodName := ⟨RX5, "readGood", "()Z"⟩
abbrev cX5_readGrace : ByteArray := prog_7_method_12_code
def yX5_readGrace : MethodName := ⟨RX5, "readGrace", "()Z"⟩
abbrev cX5_readWish : ByteArray := prog_7_method_13_code
def yX5_readWish : MethodName := ⟨RX5, "readWish", "()Z"⟩
abbrev cX5_readEarly : ByteArray := prog_7_method_14_code
def yX5_readEarly : MethodName := ⟨RX5, "readEarly", "()Z"⟩
abbrev cX5_readLevel : ByteArray := prog_7_method_15_code
def yX5_readLevel : MethodName := ⟨RX5, "readLevel", "()Z"⟩
abbrev cX6_init : ByteArray := prog_8_method_1_code
def yX6_init : MethodName := ⟨RX6, "<init>", "(LGlassVows$Tape;LGlassVows$Parish;)V"⟩
abbrev cX6_read : ByteArray := prog_8_method_2_code
def yX6_read : MethodName := ⟨RX6, "read", "()Z"⟩
abbrev cX6_readLine : ByteArray := prog_8_method_3_code
def yX6_readLine : MethodName := ⟨RX6, "readLine", "()Z"⟩
abbrev cX6_readActOfPerson : ByteArray := prog_8_method_4_code
def yX6_readActOfPerson : MethodName := ⟨RX6, "readActOfPerson", "(I)Z"⟩
abbrev cX6_readActOfGlass : ByteArray := prog_8_method_5_code
def yX6_readActOfGlass : MethodName := ⟨RX6, "readActOfGlass", "(I)Z"⟩
abbrev cX6_takeAct : ByteArray := prog_8_method_6_code
def yX6_takeAct : MethodName := ⟨RX6, "takeAct", "(IIII)Z"⟩
abbrev cX6_note : ByteArray := prog_8_method_7_code
def yX6_note : MethodName := ⟨RX6, "note", "(III)Z"⟩
abbrev cX6_judge : ByteArray := prog_8_method_8_code
def yX6_judge : MethodName := ⟨RX6, "judge", "(LGlassVows$Life;)I"⟩
abbrev cX6_told : ByteArray := prog_8_method_9_code
def yX6_told : MethodName := ⟨RX6, "told", "(I)I"⟩
abbrev cX7_init : ByteArray := prog_9_method_1_code
def yX7_init : MethodName := ⟨RX7, "<init>", "()V"⟩
abbrev cX7_forget : ByteArray := prog_9_method_2_code
def yX7_forget : MethodName := ⟨RX7, "forget", "()V"⟩
abbrev cX7_copyFrom : ByteArray := prog_9_method_3_code
def yX7_copyFrom : MethodName := ⟨RX7, "copyFrom", "(LGlassVows$Sentence;)V"⟩
abbrev cX7_read : ByteArray := prog_9_method_4_code
def yX7_read : MethodName := ⟨RX7, "read", "(LGlassVows$Tape;LGlassVows$Parish;)Z"⟩
abbrev cX7_readCond : ByteArray := prog_9_method_5_code
def yX7_readCond : MethodName := ⟨RX7, "readCond", "(LGlassVows$Tape;LGlassVows$Parish;I)Z"⟩
abbrev cX7_readAll : ByteArray := prog_9_method_6_code
def yX7_readAll : MethodName := ⟨RX7, "readAll", "(LGlassVows$Tape;LGlassVows$Parish;I)Z"⟩
abbrev cX7_readOne : ByteArray := prog_9_method_7_code
def yX7_readOne : MethodName := ⟨RX7, "readOne", "(LGlassVows$Tape;LGlassVows$Parish;I)Z"⟩
abbrev cX7_mayBegin : ByteArray := prog_9_method_8_code
def yX7_mayBegin : MethodName := ⟨RX7, "mayBegin", "(LGlassVows$Word;)Z"⟩
abbrev cX7_isMeasure : ByteArray := prog_9_method_9_code
def yX7_isMeasure : MethodName := ⟨RX7, "isMeasure", "(LGlassVows$Word;)Z"⟩
abbrev cX7_readPlain : ByteArray := prog_9_method_10_code
def yX7_readPlain : MethodName := ⟨RX7, "readPlain", "(LGlassVows$Tape;LGlassVows$Parish;)Z"⟩
abbrev cX7_addStep : ByteArray := prog_9_method_11_code
def yX7_addStep : MethodName := ⟨RX7, "addStep", "(LGlassVows$Word;II)Z"⟩
abbrev cX7_holds : ByteArray := prog_9_method_12_code
def yX7_holds : MethodName := ⟨RX7, "holds", "(LGlassVows$Life;LGlassVows$Parish;I)Z"⟩
abbrev cX7_isSo : ByteArray := prog_9_method_13_code
def yX7_isSo : MethodName := ⟨RX7, "isSo", "(ILGlassVows$Life;LGlassVows$Parish;I)Z"⟩
abbrev cX7_compares : ByteArray := prog_9_method_14_code
def yX7_compares : MethodName := ⟨RX7, "compares", "(II)Z"⟩
abbrev cX8_init : ByteArray := prog_10_method_1_code
def yX8_init : MethodName := ⟨RX8, "<init>", "()V"⟩
abbrev cX8_hasRoom : ByteArray := prog_10_method_2_code
def yX8_hasRoom : MethodName := ⟨RX8, "hasRoom", "()Z"⟩
abbrev cX8_append : ByteArray := prog_10_method_3_code
def yX8_append : MethodName := ⟨RX8, "append", "(I)V"⟩
abbrev cX8_firstByte : ByteArray := prog_10_method_4_code
def yX8_firstByte : MethodName := ⟨RX8, "firstByte", "()I"⟩
abbrev cX8_begin : ByteArray := prog_10_method_5_code
def yX8_begin : MethodName := ⟨RX8, "begin", "(I)V"⟩
abbrev cX8_fails : ByteArray := prog_10_method_6_code
def yX8_fails : MethodName := ⟨RX8, "fails", "(I)Z"⟩
abbrev cX8_next : ByteArray := prog_10_method_7_code
def yX8_next : MethodName := ⟨RX8, "next", "()V"⟩
abbrev cX8_isSign : ByteArray := prog_10_method_8_code
def yX8_isSign : MethodName := ⟨RX8, "isSign", "(I)Z"⟩
abbrev cX8_readRun : ByteArray := prog_10_method_9_code
def yX8_readRun : MethodName := ⟨RX8, "readRun", "()V"⟩
abbrev cX8_takeNumber : ByteArray := prog_10_method_10_code
def yX8_takeNumber : MethodName := ⟨RX8, "takeNumber", "(II)Z"⟩
abbrev cX8_takeSemicolon : ByteArray := prog_10_method_11_code
def yX8_takeSemicolon : MethodName := ⟨RX8, "takeSemicolon", "()Z"⟩
abbrev cX9_init : ByteArray := prog_11_method_1_code
def yX9_init : MethodName := ⟨RX9, "<init>", "(LGlassVows$Parish;)V"⟩
abbrev cX9_forget : ByteArray := prog_11_method_2_code
def yX9_forget : MethodName := ⟨RX9, "forget", "()V"⟩
abbrev cX9_keep : ByteArray := prog_11_method_3_code
def yX9_keep : MethodName := ⟨RX9, "keep", "(LGlassVows$Life;)V"⟩
abbrev cX9_dropOldest : ByteArray := prog_11_method_4_code
def yX9_dropOldest : MethodName := ⟨RX9, "dropOldest", "()V"⟩
abbrev cX9_takeBack : ByteArray := prog_11_method_5_code
def yX9_takeBack : MethodName := ⟨RX9, "takeBack", "(LGlassVows$Life;)I"⟩
abbrev cX10_init : ByteArray := prog_12_method_1_code
def yX10_init : MethodName := ⟨RX10, "<init>", "(LGlassVows$Forecast;)V"⟩
abbrev cX10_wakingAt : ByteArray := prog_12_method_2_code
def yX10_wakingAt : MethodName := ⟨RX10, "wakingAt", "(I)I"⟩
abbrev cX10_keepFor : ByteArray := prog_12_method_3_code
def yX10_keepFor : MethodName := ⟨RX10, "keepFor", "(I)I"⟩
abbrev cX10_fewestFrom : ByteArray := prog_12_method_4_code
def yX10_fewestFrom : MethodName := ⟨RX10, "fewestFrom", "(II)I"⟩
abbrev cX10_weighHour : ByteArray := prog_12_method_5_code
def yX10_weighHour : MethodName := ⟨RX10, "weighHour", "(I)V"⟩
abbrev cX10_costOfWaking : ByteArray := prog_12_method_6_code
def yX10_costOfWaking : MethodName := ⟨RX10, "costOfWaking", "(I)I"⟩
abbrev cX10_noteWakings : ByteArray := prog_12_method_7_code
def yX10_noteWakings : MethodName := ⟨RX10, "noteWakings", "(II)V"⟩
abbrev cX11_of : ByteArray := prog_13_method_4_code
def yX11_of : MethodName := ⟨RX11, "of", "(J)LGlassVows$Word;"⟩
abbrev cX12_init : ByteArray := prog_1_method_1_code
def yX12_init : MethodName := ⟨RX12, "<init>", "()V"⟩
abbrev cX12_feed : ByteArray := prog_1_method_2_code
def yX12_feed : MethodName := ⟨RX12, "feed", "(IIIII)I"⟩
abbrev cX12_end : ByteArray := prog_1_method_3_code
def yX12_end : MethodName := ⟨RX12, "end", "(I)Z"⟩
abbrev cX12_parish : ByteArray := prog_1_method_4_code
def yX12_parish : MethodName := ⟨RX12, "parish", "()I"⟩
abbrev cX12_fault : ByteArray := prog_1_method_5_code
def yX12_fault : MethodName := ⟨RX12, "fault", "()I"⟩
abbrev cX12_person : ByteArray := prog_1_method_6_code
def yX12_person : MethodName := ⟨RX12, "person", "(II)I"⟩
abbrev cX12_glass : ByteArray := prog_1_method_7_code
def yX12_glass : MethodName := ⟨RX12, "glass", "(II)I"⟩
abbrev cX12_now : ByteArray := prog_1_method_8_code
def yX12_now : MethodName := ⟨RX12, "now", "(I)I"⟩
abbrev cX12_count : ByteArray := prog_1_method_9_code
def yX12_count : MethodName := ⟨RX12, "count", "(I)I"⟩
abbrev cX12_asNumber : ByteArray := prog_1_method_10_code
def yX12_asNumber : MethodName := ⟨RX12, "asNumber", "(Z)I"⟩
abbrev cX12_isFrom : ByteArray := prog_1_method_11_code
def yX12_isFrom : MethodName := ⟨RX12, "isFrom", "(III)Z"⟩
abbrev cX12_turn : ByteArray := prog_1_method_12_code
def yX12_turn : MethodName := ⟨RX12, "turn", "(I)I"⟩
abbrev cX12_wake : ByteArray := prog_1_method_13_code
def yX12_wake : MethodName := ⟨RX12, "wake", "(I)I"⟩
abbrev cX12_woo : ByteArray := prog_1_method_14_code
def yX12_woo : MethodName := ⟨RX12, "woo", "(II)I"⟩
abbrev cX12_tilt : ByteArray := prog_1_method_15_code
def yX12_tilt : MethodName := ⟨RX12, "tilt", "(II)I"⟩
abbrev cX12_widen : ByteArray := prog_1_method_16_code
def yX12_widen : MethodName := ⟨RX12, "widen", "(II)I"⟩
abbrev cX12_spill : ByteArray := prog_1_method_17_code
def yX12_spill : MethodName := ⟨RX12, "spill", "(II)I"⟩
abbrev cX12_attempt : ByteArray := prog_1_method_18_code
def yX12_attempt : MethodName := ⟨RX12, "attempt", "(III)I"⟩
abbrev cX12_hours : ByteArray := prog_1_method_19_code
def yX12_hours : MethodName := ⟨RX12, "hours", "(I)I"⟩
abbrev cX12_undo : ByteArray := prog_1_method_20_code
def yX12_undo : MethodName := ⟨RX12, "undo", "()I"⟩
abbrev cX12_isRunning : ByteArray := prog_1_method_21_code
def yX12_isRunning : MethodName := ⟨RX12, "isRunning", "(I)Z"⟩
abbrev cX12_ends : ByteArray := prog_1_method_22_code
def yX12_ends : MethodName := ⟨RX12, "ends", "(I)I"⟩
abbrev cX12_endOf : ByteArray := prog_1_method_23_code
def yX12_endOf : MethodName := ⟨RX12, "endOf", "(I)I"⟩
abbrev cX12_lapses : ByteArray := prog_1_method_24_code
def yX12_lapses : MethodName := ⟨RX12, "lapses", "(I)I"⟩
abbrev cX12_lapseOf : ByteArray := prog_1_method_25_code
def yX12_lapseOf : MethodName := ⟨RX12, "lapseOf", "(I)I"⟩
abbrev cX12_soonest : ByteArray := prog_1_method_26_code
def yX12_soonest : MethodName := ⟨RX12, "soonest", "()I"⟩
abbrev cX12_watch : ByteArray := prog_1_method_27_code
def yX12_watch : MethodName := ⟨RX12, "watch", "(II)I"⟩
abbrev cX12_waking : ByteArray := prog_1_method_28_code
def yX12_waking : MethodName := ⟨RX12, "waking", "(I)I"⟩
abbrev cX12_chosen : ByteArray := prog_1_method_29_code
def yX12_chosen : MethodName := ⟨RX12, "chosen", "(I)I"⟩
abbrev cX12_choices : ByteArray := prog_1_method_30_code
def yX12_choices : MethodName := ⟨RX12, "choices", "(I)I"⟩
abbrev cX12_play : ByteArray := prog_1_method_31_code
def yX12_play : MethodName := ⟨RX12, "play", "(I)I"⟩
abbrev cX12_playAt : ByteArray := prog_1_method_32_code
def yX12_playAt : MethodName := ⟨RX12, "playAt", "(I)I"⟩
abbrev cX12_steal : ByteArray := prog_1_method_33_code
def yX12_steal : MethodName := ⟨RX12, "steal", "(II)I"⟩
abbrev cX12_law : ByteArray := prog_1_method_34_code
def yX12_law : MethodName := ⟨RX12, "law", "(II)I"⟩
abbrev cX12_leastGrace : ByteArray := prog_1_method_35_code
def yX12_leastGrace : MethodName := ⟨RX12, "leastGrace", "(III)I"⟩
abbrev cX12_together : ByteArray := prog_1_method_36_code
def yX12_together : MethodName := ⟨RX12, "together", "(II)I"⟩
abbrev cX12_parts : ByteArray := prog_1_method_37_code
def yX12_parts : MethodName := ⟨RX12, "parts", "(I)I"⟩
abbrev cX12_parted : ByteArray := prog_1_method_38_code
def yX12_parted : MethodName := ⟨RX12, "parted", "(I)I"⟩
abbrev cX12_good : ByteArray := prog_1_method_39_code
def yX12_good : MethodName := ⟨RX12, "good", "(II)I"⟩
abbrev cX12_rings : ByteArray := prog_1_method_40_code
def yX12_rings : MethodName := ⟨RX12, "rings", "(I)I"⟩
abbrev cX12_ringBits : ByteArray := prog_1_method_41_code
def yX12_ringBits : MethodName := ⟨RX12, "ringBits", "(II)I"⟩
abbrev cX12_banns : ByteArray := prog_1_method_42_code
def yX12_banns : MethodName := ⟨RX12, "banns", "(I)I"⟩
abbrev cX12_appendName : ByteArray := prog_1_method_43_code
def yX12_appendName : MethodName := ⟨RX12, "appendName", "(J)V"⟩
abbrev cX12_appendTerm : ByteArray := prog_1_method_44_code
def yX12_appendTerm : MethodName := ⟨RX12, "appendTerm", "(I)V"⟩
abbrev cX12_byteAt : ByteArray := prog_1_method_45_code
def yX12_byteAt : MethodName := ⟨RX12, "byteAt", "(I)I"⟩
abbrev cX12_drawn : ByteArray := prog_1_method_46_code
def yX12_drawn : MethodName := ⟨RX12, "drawn", "(II)I"⟩
abbrev cX12_odds : ByteArray := prog_1_method_47_code
def yX12_odds : MethodName := ⟨RX12, "odds", "(III)I"⟩
abbrev cX12_roll : ByteArray := prog_1_method_48_code
def yX12_roll : MethodName := ⟨RX12, "roll", "(I)I"⟩
abbrev cX12_rolled : ByteArray := prog_1_method_49_code
def yX12_rolled : MethodName := ⟨RX12, "rolled", "(I)I"⟩
abbrev cX12_sentence : ByteArray := prog_1_method_50_code
def yX12_sentence : MethodName := ⟨RX12, "sentence", "()I"⟩
abbrev cX12_said : ByteArray := prog_1_method_51_code
def yX12_said : MethodName := ⟨RX12, "said", "(I)I"⟩
abbrev cX12_image : ByteArray := prog_1_method_52_code
def yX12_image : MethodName := ⟨RX12, "image", "(I)Z"⟩
abbrev cX12_restore : ByteArray := prog_1_method_53_code
def yX12_restore : MethodName := ⟨RX12, "restore", "(I)Z"⟩
abbrev cJx29ce0_ordinal_8abf5 : ByteArray := prog_22_method_2_code
def yJx29ce0_ordinal_8abf5 : MethodName := ⟨RJx29ce0, "ordinal", "()I"⟩
theorem dX1_init_0 : decode cX1_init 0 = .ok (.aload_n 0, 1) := by decide +kernel
theorem dX1_init_1 : decode cX1_init 1 = .ok (.invokespecial 3, 3) := by decide +kernel
theorem dX1_init_4 : decode cX1_init 4 = .ok (.aload_n 0, 1) := by decide +kernel
theorem dX1_init_5 : decode cX1_init 5 = .ok (.sipush 600, 3) := by decide +kernel
theorem dX1_init_8 : decode cX1_init 8 = .ok (.newarray .int, 2) := by decide +kernel
theorem dX1_init_10 : decode cX1_init 10 = .ok (.putfield 9, 3) := by decide +kernel
theorem dX1_init_13 : decode cX1_init 13 = .ok (.aload_n 0, 1) := by decide +kernel
theorem dX1_init_14 : decode cX1_init 14 = .ok (.sipush 600, 3) := by decide +kernel
theorem dX1_init_17 : decode cX1_init 17 = .ok (.newarray .int, 2) := by decide +kernel
theorem dX1_init_19 : decode cX1_init 19 = .ok (.putfield 15, 3) := by decide +kernel
theorem dX1_init_22 : decode cX1_init 22 = .ok (.aload_n 0, 1) := by decide +kernel
theorem dX1_init_23 : decode cX1_init 23 = .ok (.aload_n 1, 1) := by decide +kernel
theorem dX1_init_24 : decode cX1_init 24 = .ok (.putfield 18, 3) := by decide +kernel
theorem dX1_init_27 : decode cX1_init 27 = .ok (.aload_n 0, 1) := by decide +kernel
theorem dX1_init_28 : decode cX1_init 28 = .ok (.aload_n 2, 1) := by decide +kernel
theorem dX1_init_29 : decode cX1_init 29 = .ok (.putfield 22, 3) := by decide +kernel
theorem dX1_init_32 : decode cX1_init 32 = .ok (.return_, 1) := by decide +kernel
theorem dX1_look_0 : decode cX1_look 0 = .ok (.aload_n 0, 1) := by decide +kernel
theorem dX1_look_1 : decode cX1_look 1 = .ok (.iload_n 1, 1) := by decide +kernel
theorem dX1_look_2 : decode cX1_look 2 = .ok (.putfield 26, 3) := by decide +kernel
theorem dX1_look_5 : decode cX1_look 5 = .ok (.aload_n 0, 1) := by decide +kernel
theorem dX1_look_6 : decode cX1_look 6 = .ok (.getfield 18, 3) := by decide +kernel
theorem dX1_look_9 : decode cX1_look 9 = .ok (.getfield 30, 3) := by decide +kernel
theorem dX1_look_12 : decode cX1_look 12 = .ok (.iload_n 1, 1) := by decide +kernel
theorem dX1_look_13 : decode cX1_look 13 = .ok (.iaload, 1) := by decide +kernel
theorem dX1_look_14 : decode cX1_look 14 = .ok (.istore_n 2, 1) := by decide +kernel
theorem dX1_look_15 : decode cX1_look 15 = .ok (.aload_n 0, 1) := by decide +kernel
theorem dX1_look_16 : decode cX1_look 16 = .ok (.getfield 18, 3) := by decide +kernel
theorem dX1_look_19 : decode cX1_look 19 = .ok (.getfield 35, 3) := by decide +kernel
theorem dX1_look_22 : decode cX1_look 22 = .ok (.iload_n 1, 1) := by decide +kernel
theorem dX1_look_23 : decode cX1_look 23 = .ok (.iaload, 1) := by decide +kernel
theorem dX1_look_24 : decode cX1_look 24 = .ok (.istore_n 3, 1) := by decide +kernel
theorem dX1_look_25 : decode cX1_look 25 = .ok (.aload_n 0, 1) := by decide +kernel
theorem dX1_look_26 : decode cX1_look 26 = .ok (.getfield 22, 3) := by decide +kernel
theorem dX1_look_29 : decode cX1_look 29 = .ok (.getfield 38, 3) := by decide +kernel
theorem dX1_look_32 : decode cX1_look 32 = .ok (.iload_n 2, 1) := by decide +kernel
theorem dX1_look_33 : decode cX1_look 33 = .ok (.iaload, 1) := by decide +kernel
theorem dX1_look_34 : decode cX1_look 34 = .ok (.istore 4, 2) := by decide +kernel
theorem dX1_look_36 : decode cX1_look 36 = .ok (.aload_n 0, 1) := by decide +kernel
theorem dX1_look_37 : decode cX1_look 37 = .ok (.getfield 22, 3) := by decide +kernel
theorem dX1_look_40 : decode cX1_look 40 = .ok (.getfield 38, 3) := by decide +kernel
theorem dX1_look_43 : decode cX1_look 43 = .ok (.iload_n 3, 1) := by decide +kernel
theorem dX1_look_44 : decode cX1_look 44 = .ok (.iaload, 1) := by decide +kernel
theorem dX1_look_45 : decode cX1_look 45 = .ok (.istore 5, 2) := by decide +kernel
theorem dX1_look_47 : decode cX1_look 47 = .ok (.aload_n 0, 1) := by decide +kernel
theorem dX1_look_48 : decode cX1_look 48 = .ok (.getfield 22, 3) := by decide +kernel
theorem dX1_look_51 : decode cX1_look 51 = .ok (.getfield 43, 3) := by decide +kernel
theorem dX1_look_54 : decode cX1_look 54 = .ok (.istore 6, 2) := by decide +kernel
theorem dX1_look_56 : decode cX1_look 56 = .ok (.iload 6, 2) := by decide +kernel
theorem dX1_look_58 : decode cX1_look 58 = .ok (.sipush 600, 3) := by decide +kernel
theorem dX1_look_61 : decode cX1_look 61 = .ok (.if_icmp .ge 88, 3) := by decide +kernel
theorem dX1_look_64 : decode cX1_look 64 = .ok (.aload_n 0, 1) := by decide +kernel
theorem dX1_look_65 : decode cX1_look 65 = .ok (.getfield 9, 3) := by decide +kernel
theorem dX1_look_68 : decode cX1_look 68 = .ok (.iload 6, 2) := by decide +kernel
theorem dX1_look_70 : decode cX1_look 70 = .ok (.aload_n 0, 1) := by decide +kernel
theorem dX1_look_71 : decode cX1_look 71 = .ok (.getfield 22, 3) := by decide +kernel
theorem dX1_look_74 : decode cX1_look 74 = .ok (.iload_n 1, 1) := by decide +kernel
theorem dX1_look_75 : decode cX1_look 75 = .ok (.iload 6, 2) := by decide +kernel
theorem dX1_look_77 : decode cX1_look 77 = .ok (.invokevirtual 46, 3) := by decide +kernel
theorem dX1_look_80 : decode cX1_look 80 = .ok (.iastore, 1) := by decide +kernel
theorem dX1_look_81 : decode cX1_look 81 = .ok (.aload_n 0, 1) := by decide +kernel
theorem dX1_look_82 : decode cX1_look 82 = .ok (.getfield 15, 3) := by decide +kernel
theorem dX1_look_85 : decode cX1_look 85 = .ok (.iload 6, 2) := by decide +kernel
theorem dX1_look_87 : decode cX1_look 87 = .ok (.aload_n 0, 1) := by decide +kernel
theorem dX1_look_88 : decode cX1_look 88 = .ok (.iload_n 2, 1) := by decide +kernel
theorem dX1_look_89 : decode cX1_look 89 = .ok (.iload 4, 2) := by decide +kernel
theorem dX1_look_91 : decode cX1_look 91 = .ok (.iload 6, 2) := by decide +kernel
theorem dX1_look_93 : decode cX1_look 93 = .ok (.invokevirtual 50, 3) := by decide +kernel
theorem dX1_look_96 : decode cX1_look 96 = .ok (.aload_n 0, 1) := by decide +kernel
theorem dX1_look_97 : decode cX1_look 97 = .ok (.iload_n 3, 1) := by decide +kernel
theorem dX1_look_98 : decode cX1_look 98 = .ok (.iload 5, 2) := by decide +kernel
theorem dX1_look_100 : decode cX1_look 100 = .ok (.iload 6, 2) := by decide +kernel
theorem dX1_look_102 : decode cX1_look 102 = .ok (.invokevirtual 50, 3) := by decide +kernel
theorem dX1_look_105 : decode cX1_look 105 = .ok (.iconst 1, 1) := by decide +kernel
theorem dX1_look_106 : decode cX1_look 106 = .ok (.ishl, 1) := by decide +kernel
theorem dX1_look_107 : decode cX1_look 107 = .ok (.ior, 1) := by decide +kernel
theorem dX1_look_108 : decode cX1_look 108 = .ok (.iastore, 1) := by decide +kernel
theorem dX1_look_109 : decode cX1_look 109 = .ok (.iload 6, 2) := by decide +kernel
theorem dX1_look_111 : decode cX1_look 111 = .ok (.bipush 24, 2) := by decide +kernel
theorem dX1_look_113 : decode cX1_look 113 = .ok (.irem, 1) := by decide +kernel
theorem dX1_look_114 : decode cX1_look 114 = .ok (.bipush 23, 2) := by decide +kernel
theorem dX1_look_116 : decode cX1_look 116 = .ok (.if_icmp .ne 27, 3) := by decide +kernel
theorem dX1_look_119 : decode cX1_look 119 = .ok (.aload_n 0, 1) := by decide +kernel
theorem dX1_look_120 : decode cX1_look 120 = .ok (.getfield 18, 3) := by decide +kernel
theorem dX1_look_123 : decode cX1_look 123 = .ok (.iload_n 2, 1) := by decide +kernel
theorem dX1_look_124 : decode cX1_look 124 = .ok (.iload 4, 2) := by decide +kernel
theorem dX1_look_126 : decode cX1_look 126 = .ok (.invokevirtual 54, 3) := by decide +kernel
theorem dX1_look_129 : decode cX1_look 129 = .ok (.istore 4, 2) := by decide +kernel
theorem dX1_look_131 : decode cX1_look 131 = .ok (.aload_n 0, 1) := by decide +kernel
theorem dX1_look_132 : decode cX1_look 132 = .ok (.getfield 18, 3) := by decide +kernel
theorem dX1_look_135 : decode cX1_look 135 = .ok (.iload_n 3, 1) := by decide +kernel
theorem dX1_look_136 : decode cX1_look 136 = .ok (.iload 5, 2) := by decide +kernel
theorem dX1_look_138 : decode cX1_look 138 = .ok (.invokevirtual 54, 3) := by decide +kernel
theorem dX1_look_141 : decode cX1_look 141 = .ok (.istore 5, 2) := by decide +kernel
theorem dX1_look_143 : decode cX1_look 143 = .ok (.iinc 6 1, 3) := by decide +kernel
theorem dX1_look_146 : decode cX1_look 146 = .ok (.goto (-90), 3) := by decide +kernel
theorem dX1_look_149 : decode cX1_look 149 = .ok (.return_, 1) := by decide +kernel
theorem dX1_mood_0 : decode cX1_mood 0 = .ok (.iload_n 2, 1) := by decide +kernel
theorem dX1_mood_1 : decode cX1_mood 1 = .ok (.aload_n 0, 1) := by decide +kernel
theorem dX1_mood_2 : decode cX1_mood 2 = .ok (.getfield 18, 3) := by decide +kernel
theorem dX1_mood_5 : decode cX1_mood 5 = .ok (.getfield 57, 3) := by decide +kernel
theorem dX1_mood_8 : decode cX1_mood 8 = .ok (.if_icmp .ge 5, 3) := by decide +kernel
theorem dX1_mood_11 : decode cX1_mood 11 = .ok (.iconst 0, 1) := by decide +kernel
theorem dX1_mood_12 : decode cX1_mood 12 = .ok (.ireturn, 1) := by decide +kernel
theorem dX1_mood_13 : decode cX1_mood 13 = .ok (.iload_n 3, 1) := by decide +kernel
theorem dX1_mood_14 : decode cX1_mood 14 = .ok (.aload_n 0, 1) := by decide +kernel
theorem dX1_mood_15 : decode cX1_mood 15 = .ok (.getfield 22, 3) := by decide +kernel
theorem dX1_mood_18 : decode cX1_mood 18 = .ok (.getfield 43, 3) := by decide +kernel
theorem dX1_mood_21 : decode cX1_mood 21 = .ok (.if_icmp .ne 18, 3) := by decide +kernel
theorem dX1_mood_24 : decode cX1_mood 24 = .ok (.aload_n 0, 1) := by decide +kernel
theorem dX1_mood_25 : decode cX1_mood 25 = .ok (.getfield 22, 3) := by decide +kernel
theorem dX1_mood_28 : decode cX1_mood 28 = .ok (.iload_n 1, 1) := by decide +kernel
theorem dX1_mood_29 : decode cX1_mood 29 = .ok (.invokevirtual 60, 3) := by decide +kernel
theorem dX1_mood_32 : decode cX1_mood 32 = .ok (.ifCond .eq 7, 3) := by decide +kernel
theorem dX1_mood_35 : decode cX1_mood 35 = .ok (.iconst 1, 1) := by decide +kernel
theorem dX1_mood_36 : decode cX1_mood 36 = .ok (.goto 4, 3) := by decide +kernel
theorem dX1_mood_39 : decode cX1_mood 39 = .ok (.iconst 0, 1) := by decide +kernel
theorem dX1_mood_40 : decode cX1_mood 40 = .ok (.istore 4, 2) := by decide +kernel
theorem dX1_mood_42 : decode cX1_mood 42 = .ok (.iload 4, 2) := by decide +kernel
theorem dX1_mood_44 : decode cX1_mood 44 = .ok (.ifCond .ne 15, 3) := by decide +kernel
theorem dX1_mood_47 : decode cX1_mood 47 = .ok (.aload_n 0, 1) := by decide +kernel
theorem dX1_mood_48 : decode cX1_mood 48 = .ok (.getfield 18, 3) := by decide +kernel
theorem dX1_mood_51 : decode cX1_mood 51 = .ok (.iload_n 1, 1) := by decide +kernel
theorem dX1_mood_52 : decode cX1_mood 52 = .ok (.iload_n 3, 1) := by decide +kernel
theorem dX1_mood_53 : decode cX1_mood 53 = .ok (.invokevirtual 64, 3) := by decide +kernel
theorem dX1_mood_56 : decode cX1_mood 56 = .ok (.ifCond .eq 7, 3) := by decide +kernel
theorem dX1_mood_59 : decode cX1_mood 59 = .ok (.iconst 5, 1) := by decide +kernel
theorem dX1_mood_60 : decode cX1_mood 60 = .ok (.goto 4, 3) := by decide +kernel
theorem dX1_mood_63 : decode cX1_mood 63 = .ok (.iconst 4, 1) := by decide +kernel
theorem dX1_mood_64 : decode cX1_mood 64 = .ok (.ireturn, 1) := by decide +kernel
theorem dX1_start_0 : decode cX1_start 0 = .ok (.aload_n 0, 1) := by decide +kernel
theorem dX1_start_1 : decode cX1_start 1 = .ok (.getfield 22, 3) := by decide +kernel
theorem dX1_start_4 : decode cX1_start 4 = .ok (.getfield 43, 3) := by decide +kernel
theorem dX1_start_7 : decode cX1_start 7 = .ok (.ireturn, 1) := by decide +kernel
theorem dX1_grains_0 : decode cX1_grains 0 = .ok (.aload_n 0, 1) := by decide +kernel
theorem dX1_grains_1 : decode cX1_grains 1 = .ok (.getfield 18, 3) := by decide +kernel
theorem dX1_grains_4 : decode cX1_grains 4 = .ok (.getfield 68, 3) := by decide +kernel
theorem dX1_grains_7 : decode cX1_grains 7 = .ok (.aload_n 0, 1) := by decide +kernel
theorem dX1_grains_8 : decode cX1_grains 8 = .ok (.getfield 26, 3) := by decide +kernel
theorem dX1_grains_11 : decode cX1_grains 11 = .ok (.iaload, 1) := by decide +kernel
theorem dX1_grains_12 : decode cX1_grains 12 = .ok (.ireturn, 1) := by decide +kernel
theorem dX1_grace_0 : decode cX1_grace 0 = .ok (.aload_n 0, 1) := by decide +kernel
theorem dX1_grace_1 : decode cX1_grace 1 = .ok (.getfield 18, 3) := by decide +kernel
theorem dX1_grace_4 : decode cX1_grace 4 = .ok (.getfield 71, 3) := by decide +kernel
theorem dX1_grace_7 : decode cX1_grace 7 = .ok (.ireturn, 1) := by decide +kernel
theorem dX1_waited_0 : decode cX1_waited 0 = .ok (.aload_n 0, 1) := by decide +kernel
theorem dX1_waited_1 : decode cX1_waited 1 = .ok (.getfield 22, 3) := by decide +kernel
theorem dX1_waited_4 : decode cX1_waited 4 = .ok (.getfield 74, 3) := by decide +kernel
theorem dX1_waited_7 : decode cX1_waited 7 = .ok (.aload_n 0, 1) := by decide +kernel
theorem dX1_waited_8 : decode cX1_waited 8 = .ok (.getfield 26, 3) := by decide +kernel
theorem dX1_waited_11 : decode cX1_waited 11 = .ok (.iaload, 1) := by decide +kernel
theorem dX1_waited_12 : decode cX1_waited 12 = .ok (.ireturn, 1) := by decide +kernel
theorem dX1_isSomeoneWilling_0 : decode cX1_isSomeoneWilling 0 = .ok (.aload_n 0, 1) := by decide +kernel
theorem dX1_isSomeoneWilling_1 : decode cX1_isSomeoneWilling 1 = .ok (.iload_n 1, 1) := by decide +kernel
theorem dX1_isSomeoneWilling_2 : decode cX1_isSomeoneWilling 2 = .ok (.iconst 3, 1) := by decide +kernel
theorem dX1_isSomeoneWilling_3 : decode cX1_isSomeoneWilling 3 = .ok (.invokevirtual 77, 3) := by decide +kernel
theorem dX1_isSomeoneWilling_6 : decode cX1_isSomeoneWilling 6 = .ok (.ireturn, 1) := by decide +kernel
theorem dX1_has_0 : decode cX1_has 0 = .ok (.iload_n 1, 1) := by decide +kernel
theorem dX1_has_1 : decode cX1_has 1 = .ok (.ifCond .lt 25, 3) := by decide +kernel
theorem dX1_has_4 : decode cX1_has 4 = .ok (.iload_n 1, 1) := by decide +kernel
theorem dX1_has_5 : decode cX1_has 5 = .ok (.sipush 600, 3) := by decide +kernel
theorem dX1_has_8 : decode cX1_has 8 = .ok (.if_icmp .ge 18, 3) := by decide +kernel
theorem dX1_has_11 : decode cX1_has 11 = .ok (.aload_n 0, 1) := by decide +kernel
theorem dX1_has_12 : decode cX1_has 12 = .ok (.getfield 15, 3) := by decide +kernel
theorem dX1_has_15 : decode cX1_has 15 = .ok (.iload_n 1, 1) := by decide +kernel
theorem dX1_has_16 : decode cX1_has 16 = .ok (.iaload, 1) := by decide +kernel
theorem dX1_has_17 : decode cX1_has 17 = .ok (.iload_n 2, 1) := by decide +kernel
theorem dX1_has_18 : decode cX1_has 18 = .ok (.iand, 1) := by decide +kernel
theorem dX1_has_19 : decode cX1_has 19 = .ok (.ifCond .eq 7, 3) := by decide +kernel
theorem dX1_has_22 : decode cX1_has 22 = .ok (.iconst 1, 1) := by decide +kernel
theorem dX1_has_23 : decode cX1_has 23 = .ok (.goto 4, 3) := by decide +kernel
theorem dX1_has_26 : decode cX1_has 26 = .ok (.iconst 0, 1) := by decide +kernel
theorem dX1_has_27 : decode cX1_has 27 = .ok (.ireturn, 1) := by decide +kernel
theorem dX1_areBothWilling_0 : decode cX1_areBothWilling 0 = .ok (.aload_n 0, 1) := by decide +kernel
theorem dX1_areBothWilling_1 : decode cX1_areBothWilling 1 = .ok (.iload_n 1, 1) := by decide +kernel
theorem dX1_areBothWilling_2 : decode cX1_areBothWilling 2 = .ok (.iconst 1, 1) := by decide +kernel
theorem dX1_areBothWilling_3 : decode cX1_areBothWilling 3 = .ok (.invokevirtual 77, 3) := by decide +kernel
theorem dX1_areBothWilling_6 : decode cX1_areBothWilling 6 = .ok (.ifCond .eq 16, 3) := by decide +kernel
theorem dX1_areBothWilling_9 : decode cX1_areBothWilling 9 = .ok (.aload_n 0, 1) := by decide +kernel
theorem dX1_areBothWilling_10 : decode cX1_areBothWilling 10 = .ok (.iload_n 1, 1) := by decide +kernel
theorem dX1_areBothWilling_11 : decode cX1_areBothWilling 11 = .ok (.iconst 2, 1) := by decide +kernel
theorem dX1_areBothWilling_12 : decode cX1_areBothWilling 12 = .ok (.invokevirtual 77, 3) := by decide +kernel
theorem dX1_areBothWilling_15 : decode cX1_areBothWilling 15 = .ok (.ifCond .eq 7, 3) := by decide +kernel
theorem dX1_areBothWilling_18 : decode cX1_areBothWilling 18 = .ok (.iconst 1, 1) := by decide +kernel
theorem dX1_areBothWilling_19 : decode cX1_areBothWilling 19 = .ok (.goto 4, 3) := by decide +kernel
theorem dX1_areBothWilling_22 : decode cX1_areBothWilling 22 = .ok (.iconst 0, 1) := by decide +kernel
theorem dX1_areBothWilling_23 : decode cX1_areBothWilling 23 = .ok (.ireturn, 1) := by decide +kernel
theorem dX1_endNow_0 : decode cX1_endNow 0 = .ok (.aload_n 0, 1) := by decide +kernel
theorem dX1_endNow_1 : decode cX1_endNow 1 = .ok (.aload_n 0, 1) := by decide +kernel
theorem dX1_endNow_2 : decode cX1_endNow 2 = .ok (.getfield 22, 3) := by decide +kernel
theorem dX1_endNow_5 : decode cX1_endNow 5 = .ok (.getfield 43, 3) := by decide +kernel
theorem dX1_endNow_8 : decode cX1_endNow 8 = .ok (.aload_n 0, 1) := by decide +kernel
theorem dX1_endNow_9 : decode cX1_endNow 9 = .ok (.getfield 22, 3) := by decide +kernel
theorem dX1_endNow_12 : decode cX1_endNow 12 = .ok (.getfield 80, 3) := by decide +kernel
theorem dX1_endNow_15 : decode cX1_endNow 15 = .ok (.aload_n 0, 1) := by decide +kernel
theorem dX1_endNow_16 : decode cX1_endNow 16 = .ok (.getfield 26, 3) := by decide +kernel
theorem dX1_endNow_19 : decode cX1_endNow 19 = .ok (.iaload, 1) := by decide +kernel
theorem dX1_endNow_20 : decode cX1_endNow 20 = .ok (.invokevirtual 83, 3) := by decide +kernel
theorem dX1_endNow_23 : decode cX1_endNow 23 = .ok (.ireturn, 1) := by decide +kernel
theorem dX1_endFrom_0 : decode cX1_endFrom 0 = .ok (.iload_n 2, 1) := by decide +kernel
theorem dX1_endFrom_1 : decode cX1_endFrom 1 = .ok (.istore_n 3, 1) := by decide +kernel
theorem dX1_endFrom_2 : decode cX1_endFrom 2 = .ok (.iconst 0, 1) := by decide +kernel
theorem dX1_endFrom_3 : decode cX1_endFrom 3 = .ok (.iload_n 1, 1) := by decide +kernel
theorem dX1_endFrom_4 : decode cX1_endFrom 4 = .ok (.invokestatic 86, 3) := by decide +kernel
theorem dX1_endFrom_7 : decode cX1_endFrom 7 = .ok (.istore 4, 2) := by decide +kernel
theorem dX1_endFrom_9 : decode cX1_endFrom 9 = .ok (.iload 4, 2) := by decide +kernel
theorem dX1_endFrom_11 : decode cX1_endFrom 11 = .ok (.sipush 600, 3) := by decide +kernel
theorem dX1_endFrom_14 : decode cX1_endFrom 14 = .ok (.if_icmp .ge 26, 3) := by decide +kernel
theorem dX1_endFrom_17 : decode cX1_endFrom 17 = .ok (.iload_n 3, 1) := by decide +kernel
theorem dX1_endFrom_18 : decode cX1_endFrom 18 = .ok (.ifCond .gt 6, 3) := by decide +kernel
theorem dX1_endFrom_21 : decode cX1_endFrom 21 = .ok (.iload 4, 2) := by decide +kernel
theorem dX1_endFrom_23 : decode cX1_endFrom 23 = .ok (.ireturn, 1) := by decide +kernel
theorem dX1_endFrom_24 : decode cX1_endFrom 24 = .ok (.iload_n 3, 1) := by decide +kernel
theorem dX1_endFrom_25 : decode cX1_endFrom 25 = .ok (.aload_n 0, 1) := by decide +kernel
theorem dX1_endFrom_26 : decode cX1_endFrom 26 = .ok (.getfield 9, 3) := by decide +kernel
theorem dX1_endFrom_29 : decode cX1_endFrom 29 = .ok (.iload 4, 2) := by decide +kernel
theorem dX1_endFrom_31 : decode cX1_endFrom 31 = .ok (.iaload, 1) := by decide +kernel
theorem dX1_endFrom_32 : decode cX1_endFrom 32 = .ok (.isub, 1) := by decide +kernel
theorem dX1_endFrom_33 : decode cX1_endFrom 33 = .ok (.istore_n 3, 1) := by decide +kernel
theorem dX1_endFrom_34 : decode cX1_endFrom 34 = .ok (.iinc 4 1, 3) := by decide +kernel
theorem dX1_endFrom_37 : decode cX1_endFrom 37 = .ok (.goto (-28), 3) := by decide +kernel
theorem dX1_endFrom_40 : decode cX1_endFrom 40 = .ok (.sipush 600, 3) := by decide +kernel
theorem dX1_endFrom_43 : decode cX1_endFrom 43 = .ok (.ireturn, 1) := by decide +kernel
theorem dX1_lapseHour_0 : decode cX1_lapseHour 0 = .ok (.iload_n 1, 1) := by decide +kernel
theorem dX1_lapseHour_1 : decode cX1_lapseHour 1 = .ok (.istore 4, 2) := by decide +kernel
theorem dX1_lapseHour_3 : decode cX1_lapseHour 3 = .ok (.aload_n 0, 1) := by decide +kernel
theorem dX1_lapseHour_4 : decode cX1_lapseHour 4 = .ok (.getfield 22, 3) := by decide +kernel
theorem dX1_lapseHour_7 : decode cX1_lapseHour 7 = .ok (.getfield 74, 3) := by decide +kernel
theorem dX1_lapseHour_10 : decode cX1_lapseHour 10 = .ok (.aload_n 0, 1) := by decide +kernel
theorem dX1_lapseHour_11 : decode cX1_lapseHour 11 = .ok (.getfield 26, 3) := by decide +kernel
theorem dX1_lapseHour_14 : decode cX1_lapseHour 14 = .ok (.iaload, 1) := by decide +kernel
theorem dX1_lapseHour_15 : decode cX1_lapseHour 15 = .ok (.istore 5, 2) := by decide +kernel
theorem dX1_lapseHour_17 : decode cX1_lapseHour 17 = .ok (.aload_n 0, 1) := by decide +kernel
theorem dX1_lapseHour_18 : decode cX1_lapseHour 18 = .ok (.getfield 22, 3) := by decide +kernel
theorem dX1_lapseHour_21 : decode cX1_lapseHour 21 = .ok (.getfield 43, 3) := by decide +kernel
theorem dX1_lapseHour_24 : decode cX1_lapseHour 24 = .ok (.istore 6, 2) := by decide +kernel
theorem dX1_lapseHour_26 : decode cX1_lapseHour 26 = .ok (.iload 6, 2) := by decide +kernel
theorem dX1_lapseHour_28 : decode cX1_lapseHour 28 = .ok (.iload_n 3, 1) := by decide +kernel
theorem dX1_lapseHour_29 : decode cX1_lapseHour 29 = .ok (.if_icmp .ge 82, 3) := by decide +kernel
theorem dX1_lapseHour_32 : decode cX1_lapseHour 32 = .ok (.iload 6, 2) := by decide +kernel
theorem dX1_lapseHour_34 : decode cX1_lapseHour 34 = .ok (.sipush 600, 3) := by decide +kernel
theorem dX1_lapseHour_37 : decode cX1_lapseHour 37 = .ok (.if_icmp .ge 74, 3) := by decide +kernel
theorem dX1_lapseHour_40 : decode cX1_lapseHour 40 = .ok (.iload 4, 2) := by decide +kernel
theorem dX1_lapseHour_42 : decode cX1_lapseHour 42 = .ok (.ifCond .le 22, 3) := by decide +kernel
theorem dX1_lapseHour_45 : decode cX1_lapseHour 45 = .ok (.iconst 0, 1) := by decide +kernel
theorem dX1_lapseHour_46 : decode cX1_lapseHour 46 = .ok (.iload 4, 2) := by decide +kernel
theorem dX1_lapseHour_48 : decode cX1_lapseHour 48 = .ok (.aload_n 0, 1) := by decide +kernel
theorem dX1_lapseHour_49 : decode cX1_lapseHour 49 = .ok (.getfield 9, 3) := by decide +kernel
theorem dX1_lapseHour_52 : decode cX1_lapseHour 52 = .ok (.iload 6, 2) := by decide +kernel
theorem dX1_lapseHour_54 : decode cX1_lapseHour 54 = .ok (.iaload, 1) := by decide +kernel
theorem dX1_lapseHour_55 : decode cX1_lapseHour 55 = .ok (.isub, 1) := by decide +kernel
theorem dX1_lapseHour_56 : decode cX1_lapseHour 56 = .ok (.invokestatic 86, 3) := by decide +kernel
theorem dX1_lapseHour_59 : decode cX1_lapseHour 59 = .ok (.istore 4, 2) := by decide +kernel
theorem dX1_lapseHour_61 : decode cX1_lapseHour 61 = .ok (.goto 44, 3) := by decide +kernel
theorem dX1_lapseHour_64 : decode cX1_lapseHour 64 = .ok (.aload_n 0, 1) := by decide +kernel
theorem dX1_lapseHour_65 : decode cX1_lapseHour 65 = .ok (.iload 6, 2) := by decide +kernel
theorem dX1_lapseHour_67 : decode cX1_lapseHour 67 = .ok (.invokevirtual 91, 3) := by decide +kernel
theorem dX1_lapseHour_70 : decode cX1_lapseHour 70 = .ok (.ifCond .eq 23, 3) := by decide +kernel
theorem dX1_lapseHour_73 : decode cX1_lapseHour 73 = .ok (.aload_n 0, 1) := by decide +kernel
theorem dX1_lapseHour_74 : decode cX1_lapseHour 74 = .ok (.getfield 18, 3) := by decide +kernel
theorem dX1_lapseHour_77 : decode cX1_lapseHour 77 = .ok (.getfield 68, 3) := by decide +kernel
theorem dX1_lapseHour_80 : decode cX1_lapseHour 80 = .ok (.aload_n 0, 1) := by decide +kernel
theorem dX1_lapseHour_81 : decode cX1_lapseHour 81 = .ok (.getfield 26, 3) := by decide +kernel
theorem dX1_lapseHour_84 : decode cX1_lapseHour 84 = .ok (.iaload, 1) := by decide +kernel
theorem dX1_lapseHour_85 : decode cX1_lapseHour 85 = .ok (.istore 4, 2) := by decide +kernel
theorem dX1_lapseHour_87 : decode cX1_lapseHour 87 = .ok (.iconst 0, 1) := by decide +kernel
theorem dX1_lapseHour_88 : decode cX1_lapseHour 88 = .ok (.istore 5, 2) := by decide +kernel
theorem dX1_lapseHour_90 : decode cX1_lapseHour 90 = .ok (.goto 15, 3) := by decide +kernel
theorem dX1_lapseHour_93 : decode cX1_lapseHour 93 = .ok (.iinc 5 1, 3) := by decide +kernel
theorem dX1_lapseHour_96 : decode cX1_lapseHour 96 = .ok (.iload 5, 2) := by decide +kernel
theorem dX1_lapseHour_98 : decode cX1_lapseHour 98 = .ok (.iload_n 2, 1) := by decide +kernel
theorem dX1_lapseHour_99 : decode cX1_lapseHour 99 = .ok (.if_icmp .lt 6, 3) := by decide +kernel
theorem dX1_lapseHour_102 : decode cX1_lapseHour 102 = .ok (.iload 6, 2) := by decide +kernel
theorem dX1_lapseHour_104 : decode cX1_lapseHour 104 = .ok (.ireturn, 1) := by decide +kernel
theorem dX1_lapseHour_105 : decode cX1_lapseHour 105 = .ok (.iinc 6 1, 3) := by decide +kernel
theorem dX1_lapseHour_108 : decode cX1_lapseHour 108 = .ok (.goto (-82), 3) := by decide +kernel
theorem dX1_lapseHour_111 : decode cX1_lapseHour 111 = .ok (.iconst (-1), 1) := by decide +kernel
theorem dX1_lapseHour_112 : decode cX1_lapseHour 112 = .ok (.ireturn, 1) := by decide +kernel
theorem dX1_weighGrains_0 : decode cX1_weighGrains 0 = .ok (.aload_n 0, 1) := by decide +kernel
theorem dX1_weighGrains_1 : decode cX1_weighGrains 1 = .ok (.iconst (-1), 1) := by decide +kernel
theorem dX1_weighGrains_2 : decode cX1_weighGrains 2 = .ok (.putfield 94, 3) := by decide +kernel
theorem dX1_weighGrains_5 : decode cX1_weighGrains 5 = .ok (.aload_n 0, 1) := by decide +kernel
theorem dX1_weighGrains_6 : decode cX1_weighGrains 6 = .ok (.iconst 0, 1) := by decide +kernel
theorem dX1_weighGrains_7 : decode cX1_weighGrains 7 = .ok (.putfield 97, 3) := by decide +kernel
theorem dX1_weighGrains_10 : decode cX1_weighGrains 10 = .ok (.iconst 0, 1) := by decide +kernel
theorem dX1_weighGrains_11 : decode cX1_weighGrains 11 = .ok (.istore_n 1, 1) := by decide +kernel
theorem dX1_weighGrains_12 : decode cX1_weighGrains 12 = .ok (.aload_n 0, 1) := by decide +kernel
theorem dX1_weighGrains_13 : decode cX1_weighGrains 13 = .ok (.getfield 22, 3) := by decide +kernel
theorem dX1_weighGrains_16 : decode cX1_weighGrains 16 = .ok (.getfield 43, 3) := by decide +kernel
theorem dX1_weighGrains_19 : decode cX1_weighGrains 19 = .ok (.istore_n 2, 1) := by decide +kernel
theorem dX1_weighGrains_20 : decode cX1_weighGrains 20 = .ok (.iload_n 2, 1) := by decide +kernel
theorem dX1_weighGrains_21 : decode cX1_weighGrains 21 = .ok (.sipush 599, 3) := by decide +kernel
theorem dX1_weighGrains_24 : decode cX1_weighGrains 24 = .ok (.if_icmp .ge 65, 3) := by decide +kernel
theorem dX1_weighGrains_27 : decode cX1_weighGrains 27 = .ok (.iload_n 1, 1) := by decide +kernel
theorem dX1_weighGrains_28 : decode cX1_weighGrains 28 = .ok (.sipush 250, 3) := by decide +kernel
theorem dX1_weighGrains_31 : decode cX1_weighGrains 31 = .ok (.if_icmp .ge 58, 3) := by decide +kernel
theorem dX1_weighGrains_34 : decode cX1_weighGrains 34 = .ok (.sipush 250, 3) := by decide +kernel
theorem dX1_weighGrains_37 : decode cX1_weighGrains 37 = .ok (.iload_n 1, 1) := by decide +kernel
theorem dX1_weighGrains_38 : decode cX1_weighGrains 38 = .ok (.aload_n 0, 1) := by decide +kernel
theorem dX1_weighGrains_39 : decode cX1_weighGrains 39 = .ok (.getfield 9, 3) := by decide +kernel
theorem dX1_weighGrains_42 : decode cX1_weighGrains 42 = .ok (.iload_n 2, 1) := by decide +kernel
theorem dX1_weighGrains_43 : decode cX1_weighGrains 43 = .ok (.iaload, 1) := by decide +kernel
theorem dX1_weighGrains_44 : decode cX1_weighGrains 44 = .ok (.iadd, 1) := by decide +kernel
theorem dX1_weighGrains_45 : decode cX1_weighGrains 45 = .ok (.invokestatic 100, 3) := by decide +kernel
theorem dX1_weighGrains_48 : decode cX1_weighGrains 48 = .ok (.istore_n 3, 1) := by decide +kernel
theorem dX1_weighGrains_49 : decode cX1_weighGrains 49 = .ok (.iload_n 3, 1) := by decide +kernel
theorem dX1_weighGrains_50 : decode cX1_weighGrains 50 = .ok (.iload_n 1, 1) := by decide +kernel
theorem dX1_weighGrains_51 : decode cX1_weighGrains 51 = .ok (.if_icmp .le 30, 3) := by decide +kernel
theorem dX1_weighGrains_54 : decode cX1_weighGrains 54 = .ok (.aload_n 0, 1) := by decide +kernel
theorem dX1_weighGrains_55 : decode cX1_weighGrains 55 = .ok (.iload_n 2, 1) := by decide +kernel
theorem dX1_weighGrains_56 : decode cX1_weighGrains 56 = .ok (.iconst 1, 1) := by decide +kernel
theorem dX1_weighGrains_57 : decode cX1_weighGrains 57 = .ok (.iadd, 1) := by decide +kernel
theorem dX1_weighGrains_58 : decode cX1_weighGrains 58 = .ok (.invokevirtual 103, 3) := by decide +kernel
theorem dX1_weighGrains_61 : decode cX1_weighGrains 61 = .ok (.ifCond .eq 20, 3) := by decide +kernel
theorem dX1_weighGrains_64 : decode cX1_weighGrains 64 = .ok (.aload_n 0, 1) := by decide +kernel
theorem dX1_weighGrains_65 : decode cX1_weighGrains 65 = .ok (.iload_n 3, 1) := by decide +kernel
theorem dX1_weighGrains_66 : decode cX1_weighGrains 66 = .ok (.putfield 94, 3) := by decide +kernel
theorem dX1_weighGrains_69 : decode cX1_weighGrains 69 = .ok (.aload_n 0, 1) := by decide +kernel
theorem dX1_weighGrains_70 : decode cX1_weighGrains 70 = .ok (.dup, 1) := by decide +kernel
theorem dX1_weighGrains_71 : decode cX1_weighGrains 71 = .ok (.getfield 97, 3) := by decide +kernel
theorem dX1_weighGrains_74 : decode cX1_weighGrains 74 = .ok (.iload_n 3, 1) := by decide +kernel
theorem dX1_weighGrains_75 : decode cX1_weighGrains 75 = .ok (.iload_n 1, 1) := by decide +kernel
theorem dX1_weighGrains_76 : decode cX1_weighGrains 76 = .ok (.isub, 1) := by decide +kernel
theorem dX1_weighGrains_77 : decode cX1_weighGrains 77 = .ok (.iadd, 1) := by decide +kernel
theorem dX1_weighGrains_78 : decode cX1_weighGrains 78 = .ok (.putfield 97, 3) := by decide +kernel
theorem dX1_weighGrains_81 : decode cX1_weighGrains 81 = .ok (.iload_n 3, 1) := by decide +kernel
theorem dX1_weighGrains_82 : decode cX1_weighGrains 82 = .ok (.istore_n 1, 1) := by decide +kernel
theorem dX1_weighGrains_83 : decode cX1_weighGrains 83 = .ok (.iinc 2 1, 3) := by decide +kernel
theorem dX1_weighGrains_86 : decode cX1_weighGrains 86 = .ok (.goto (-66), 3) := by decide +kernel
theorem dX1_weighGrains_89 : decode cX1_weighGrains 89 = .ok (.return_, 1) := by decide +kernel
theorem dX1_findLastTurner_0 : decode cX1_findLastTurner 0 = .ok (.aload_n 0, 1) := by decide +kernel
theorem dX1_findLastTurner_1 : decode cX1_findLastTurner 1 = .ok (.iconst (-1), 1) := by decide +kernel
theorem dX1_findLastTurner_2 : decode cX1_findLastTurner 2 = .ok (.putfield 106, 3) := by decide +kernel
theorem dX1_findLastTurner_5 : decode cX1_findLastTurner 5 = .ok (.aload_n 0, 1) := by decide +kernel
theorem dX1_findLastTurner_6 : decode cX1_findLastTurner 6 = .ok (.iconst (-1), 1) := by decide +kernel
theorem dX1_findLastTurner_7 : decode cX1_findLastTurner 7 = .ok (.putfield 109, 3) := by decide +kernel
theorem dX1_findLastTurner_10 : decode cX1_findLastTurner 10 = .ok (.aload_n 0, 1) := by decide +kernel
theorem dX1_findLastTurner_11 : decode cX1_findLastTurner 11 = .ok (.invokevirtual 112, 3) := by decide +kernel
theorem dX1_findLastTurner_14 : decode cX1_findLastTurner 14 = .ok (.istore_n 1, 1) := by decide +kernel
theorem dX1_findLastTurner_15 : decode cX1_findLastTurner 15 = .ok (.iload_n 1, 1) := by decide +kernel
theorem dX1_findLastTurner_16 : decode cX1_findLastTurner 16 = .ok (.istore_n 2, 1) := by decide +kernel
theorem dX1_findLastTurner_17 : decode cX1_findLastTurner 17 = .ok (.iload_n 2, 1) := by decide +kernel
theorem dX1_findLastTurner_18 : decode cX1_findLastTurner 18 = .ok (.iload_n 1, 1) := by decide +kernel
theorem dX1_findLastTurner_19 : decode cX1_findLastTurner 19 = .ok (.aload_n 0, 1) := by decide +kernel
theorem dX1_findLastTurner_20 : decode cX1_findLastTurner 20 = .ok (.getfield 18, 3) := by decide +kernel
theorem dX1_findLastTurner_23 : decode cX1_findLastTurner 23 = .ok (.getfield 71, 3) := by decide +kernel
theorem dX1_findLastTurner_26 : decode cX1_findLastTurner 26 = .ok (.iadd, 1) := by decide +kernel
theorem dX1_findLastTurner_27 : decode cX1_findLastTurner 27 = .ok (.if_icmp .ge 69, 3) := by decide +kernel
theorem dX1_findLastTurner_30 : decode cX1_findLastTurner 30 = .ok (.iload_n 2, 1) := by decide +kernel
theorem dX1_findLastTurner_31 : decode cX1_findLastTurner 31 = .ok (.sipush 600, 3) := by decide +kernel
theorem dX1_findLastTurner_34 : decode cX1_findLastTurner 34 = .ok (.if_icmp .ge 62, 3) := by decide +kernel
theorem dX1_findLastTurner_37 : decode cX1_findLastTurner 37 = .ok (.aload_n 0, 1) := by decide +kernel
theorem dX1_findLastTurner_38 : decode cX1_findLastTurner 38 = .ok (.iload_n 2, 1) := by decide +kernel
theorem dX1_findLastTurner_39 : decode cX1_findLastTurner 39 = .ok (.invokevirtual 91, 3) := by decide +kernel
theorem dX1_findLastTurner_42 : decode cX1_findLastTurner 42 = .ok (.ifCond .eq 48, 3) := by decide +kernel
theorem dX1_findLastTurner_45 : decode cX1_findLastTurner 45 = .ok (.aload_n 0, 1) := by decide +kernel
theorem dX1_findLastTurner_46 : decode cX1_findLastTurner 46 = .ok (.iload_n 2, 1) := by decide +kernel
theorem dX1_findLastTurner_47 : decode cX1_findLastTurner 47 = .ok (.putfield 109, 3) := by decide +kernel
theorem dX1_findLastTurner_50 : decode cX1_findLastTurner 50 = .ok (.aload_n 0, 1) := by decide +kernel
theorem dX1_findLastTurner_51 : decode cX1_findLastTurner 51 = .ok (.aload_n 0, 1) := by decide +kernel
theorem dX1_findLastTurner_52 : decode cX1_findLastTurner 52 = .ok (.iload_n 2, 1) := by decide +kernel
theorem dX1_findLastTurner_53 : decode cX1_findLastTurner 53 = .ok (.iconst 2, 1) := by decide +kernel
theorem dX1_findLastTurner_54 : decode cX1_findLastTurner 54 = .ok (.invokevirtual 77, 3) := by decide +kernel
theorem dX1_findLastTurner_57 : decode cX1_findLastTurner 57 = .ok (.ifCond .eq 18, 3) := by decide +kernel
theorem dX1_findLastTurner_60 : decode cX1_findLastTurner 60 = .ok (.aload_n 0, 1) := by decide +kernel
theorem dX1_findLastTurner_61 : decode cX1_findLastTurner 61 = .ok (.getfield 18, 3) := by decide +kernel
theorem dX1_findLastTurner_64 : decode cX1_findLastTurner 64 = .ok (.getfield 35, 3) := by decide +kernel
theorem dX1_findLastTurner_67 : decode cX1_findLastTurner 67 = .ok (.aload_n 0, 1) := by decide +kernel
theorem dX1_findLastTurner_68 : decode cX1_findLastTurner 68 = .ok (.getfield 26, 3) := by decide +kernel
theorem dX1_findLastTurner_71 : decode cX1_findLastTurner 71 = .ok (.iaload, 1) := by decide +kernel
theorem dX1_findLastTurner_72 : decode cX1_findLastTurner 72 = .ok (.goto 15, 3) := by decide +kernel
theorem dX1_findLastTurner_75 : decode cX1_findLastTurner 75 = .ok (.aload_n 0, 1) := by decide +kernel
theorem dX1_findLastTurner_76 : decode cX1_findLastTurner 76 = .ok (.getfield 18, 3) := by decide +kernel
theorem dX1_findLastTurner_79 : decode cX1_findLastTurner 79 = .ok (.getfield 30, 3) := by decide +kernel
theorem dX1_findLastTurner_82 : decode cX1_findLastTurner 82 = .ok (.aload_n 0, 1) := by decide +kernel
theorem dX1_findLastTurner_83 : decode cX1_findLastTurner 83 = .ok (.getfield 26, 3) := by decide +kernel
theorem dX1_findLastTurner_86 : decode cX1_findLastTurner 86 = .ok (.iaload, 1) := by decide +kernel
theorem dX1_findLastTurner_87 : decode cX1_findLastTurner 87 = .ok (.putfield 106, 3) := by decide +kernel
theorem dX1_findLastTurner_90 : decode cX1_findLastTurner 90 = .ok (.iinc 2 1, 3) := by decide +kernel
theorem dX1_findLastTurner_93 : decode cX1_findLastTurner 93 = .ok (.goto (-76), 3) := by decide +kernel
theorem dX1_findLastTurner_96 : decode cX1_findLastTurner 96 = .ok (.return_, 1) := by decide +kernel
theorem dX2_init_0 : decode cX2_init 0 = .ok (.aload_n 0, 1) := by decide +kernel
theorem dX2_init_1 : decode cX2_init 1 = .ok (.invokespecial 3, 3) := by decide +kernel
theorem dX2_init_4 : decode cX2_init 4 = .ok (.aload_n 0, 1) := by decide +kernel
theorem dX2_init_5 : decode cX2_init 5 = .ok (.bipush 6, 2) := by decide +kernel
theorem dX2_init_7 : decode cX2_init 7 = .ok (.newarray .long, 2) := by decide +kernel
theorem dX2_init_9 : decode cX2_init 9 = .ok (.putfield 9, 3) := by decide +kernel
theorem dX2_init_12 : decode cX2_init 12 = .ok (.aload_n 0, 1) := by decide +kernel
theorem dX2_init_13 : decode cX2_init 13 = .ok (.bipush 6, 2) := by decide +kernel
theorem dX2_init_15 : decode cX2_init 15 = .ok (.newarray .int, 2) := by decide +kernel
theorem dX2_init_17 : decode cX2_init 17 = .ok (.putfield 15, 3) := by decide +kernel
theorem dX2_init_20 : decode cX2_init 20 = .ok (.aload_n 0, 1) := by decide +kernel
theorem dX2_init_21 : decode cX2_init 21 = .ok (.bipush 6, 2) := by decide +kernel
theorem dX2_init_23 : decode cX2_init 23 = .ok (.newarray .int, 2) := by decide +kernel
theorem dX2_init_25 : decode cX2_init 25 = .ok (.putfield 19, 3) := by decide +kernel
theorem dX2_init_28 : decode cX2_init 28 = .ok (.aload_n 0, 1) := by decide +kernel
theorem dX2_init_29 : decode cX2_init 29 = .ok (.bipush 6, 2) := by decide +kernel
theorem dX2_init_31 : decode cX2_init 31 = .ok (.newarray .int, 2) := by decide +kernel
theorem dX2_init_33 : decode cX2_init 33 = .ok (.putfield 22, 3) := by decide +kernel
theorem dX2_init_36 : decode cX2_init 36 = .ok (.return_, 1) := by decide +kernel
theorem dX2_copyFrom_0 : decode cX2_copyFrom 0 = .ok (.aload_n 1, 1) := by decide +kernel
theorem dX2_copyFrom_1 : decode cX2_copyFrom 1 = .ok (.getfield 9, 3) := by decide +kernel
theorem dX2_copyFrom_4 : decode cX2_copyFrom 4 = .ok (.iconst 0, 1) := by decide +kernel
theorem dX2_copyFrom_5 : decode cX2_copyFrom 5 = .ok (.aload_n 0, 1) := by decide +kernel
theorem dX2_copyFrom_6 : decode cX2_copyFrom 6 = .ok (.getfield 9, 3) := by decide +kernel
theorem dX2_copyFrom_9 : decode cX2_copyFrom 9 = .ok (.iconst 0, 1) := by decide +kernel
theorem dX2_copyFrom_10 : decode cX2_copyFrom 10 = .ok (.bipush 6, 2) := by decide +kernel
theorem dX2_copyFrom_12 : decode cX2_copyFrom 12 = .ok (.invokestatic 25, 3) := by decide +kernel
theorem dX2_copyFrom_15 : decode cX2_copyFrom 15 = .ok (.aload_n 1, 1) := by decide +kernel
theorem dX2_copyFrom_16 : decode cX2_copyFrom 16 = .ok (.getfield 15, 3) := by decide +kernel
theorem dX2_copyFrom_19 : decode cX2_copyFrom 19 = .ok (.iconst 0, 1) := by decide +kernel
theorem dX2_copyFrom_20 : decode cX2_copyFrom 20 = .ok (.aload_n 0, 1) := by decide +kernel
theorem dX2_copyFrom_21 : decode cX2_copyFrom 21 = .ok (.getfield 15, 3) := by decide +kernel
theorem dX2_copyFrom_24 : decode cX2_copyFrom 24 = .ok (.iconst 0, 1) := by decide +kernel
theorem dX2_copyFrom_25 : decode cX2_copyFrom 25 = .ok (.bipush 6, 2) := by decide +kernel
theorem dX2_copyFrom_27 : decode cX2_copyFrom 27 = .ok (.invokestatic 25, 3) := by decide +kernel
theorem dX2_copyFrom_30 : decode cX2_copyFrom 30 = .ok (.aload_n 1, 1) := by decide +kernel
theorem dX2_copyFrom_31 : decode cX2_copyFrom 31 = .ok (.getfield 19, 3) := by decide +kernel
theorem dX2_copyFrom_34 : decode cX2_copyFrom 34 = .ok (.iconst 0, 1) := by decide +kernel
theorem dX2_copyFrom_35 : decode cX2_copyFrom 35 = .ok (.aload_n 0, 1) := by decide +kernel
theorem dX2_copyFrom_36 : decode cX2_copyFrom 36 = .ok (.getfield 19, 3) := by decide +kernel
theorem dX2_copyFrom_39 : decode cX2_copyFrom 39 = .ok (.iconst 0, 1) := by decide +kernel
theorem dX2_copyFrom_40 : decode cX2_copyFrom 40 = .ok (.bipush 6, 2) := by decide +kernel
theorem dX2_copyFrom_42 : decode cX2_copyFrom 42 = .ok (.invokestatic 25, 3) := by decide +kernel
theorem dX2_copyFrom_45 : decode cX2_copyFrom 45 = .ok (.aload_n 1, 1) := by decide +kernel
theorem dX2_copyFrom_46 : decode cX2_copyFrom 46 = .ok (.getfield 22, 3) := by decide +kernel
theorem dX2_copyFrom_49 : decode cX2_copyFrom 49 = .ok (.iconst 0, 1) := by decide +kernel
theorem dX2_copyFrom_50 : decode cX2_copyFrom 50 = .ok (.aload_n 0, 1) := by decide +kernel
theorem dX2_copyFrom_51 : decode cX2_copyFrom 51 = .ok (.getfield 22, 3) := by decide +kernel
theorem dX2_copyFrom_54 : decode cX2_copyFrom 54 = .ok (.iconst 0, 1) := by decide +kernel
theorem dX2_copyFrom_55 : decode cX2_copyFrom 55 = .ok (.bipush 6, 2) := by decide +kernel
theorem dX2_copyFrom_57 : decode cX2_copyFrom 57 = .ok (.invokestatic 25, 3) := by decide +kernel
theorem dX2_copyFrom_60 : decode cX2_copyFrom 60 = .ok (.aload_n 0, 1) := by decide +kernel
theorem dX2_copyFrom_61 : decode cX2_copyFrom 61 = .ok (.aload_n 1, 1) := by decide +kernel
theorem dX2_copyFrom_62 : decode cX2_copyFrom 62 = .ok (.getfield 31, 3) := by decide +kernel
theorem dX2_copyFrom_65 : decode cX2_copyFrom 65 = .ok (.putfield 31, 3) := by decide +kernel
theorem dX2_copyFrom_68 : decode cX2_copyFrom 68 = .ok (.return_, 1) := by decide +kernel
theorem dX2_allOf_0 : decode cX2_allOf 0 = .ok (.iconst 0, 1) := by decide +kernel
theorem dX2_allOf_1 : decode cX2_allOf 1 = .ok (.istore_n 2, 1) := by decide +kernel
theorem dX2_allOf_2 : decode cX2_allOf 2 = .ok (.iconst 0, 1) := by decide +kernel
theorem dX2_allOf_3 : decode cX2_allOf 3 = .ok (.istore_n 3, 1) := by decide +kernel
theorem dX2_allOf_4 : decode cX2_allOf 4 = .ok (.iload_n 3, 1) := by decide +kernel
theorem dX2_allOf_5 : decode cX2_allOf 5 = .ok (.aload_n 0, 1) := by decide +kernel
theorem dX2_allOf_6 : decode cX2_allOf 6 = .ok (.getfield 31, 3) := by decide +kernel
theorem dX2_allOf_9 : decode cX2_allOf 9 = .ok (.if_icmp .ge 25, 3) := by decide +kernel
theorem dX2_allOf_12 : decode cX2_allOf 12 = .ok (.aload_n 0, 1) := by decide +kernel
theorem dX2_allOf_13 : decode cX2_allOf 13 = .ok (.getfield 15, 3) := by decide +kernel
theorem dX2_allOf_16 : decode cX2_allOf 16 = .ok (.iload_n 3, 1) := by decide +kernel
theorem dX2_allOf_17 : decode cX2_allOf 17 = .ok (.iaload, 1) := by decide +kernel
theorem dX2_allOf_18 : decode cX2_allOf 18 = .ok (.iload_n 1, 1) := by decide +kernel
theorem dX2_allOf_19 : decode cX2_allOf 19 = .ok (.if_icmp .ne 9, 3) := by decide +kernel
theorem dX2_allOf_22 : decode cX2_allOf 22 = .ok (.iload_n 2, 1) := by decide +kernel
theorem dX2_allOf_23 : decode cX2_allOf 23 = .ok (.iconst 1, 1) := by decide +kernel
theorem dX2_allOf_24 : decode cX2_allOf 24 = .ok (.iload_n 3, 1) := by decide +kernel
theorem dX2_allOf_25 : decode cX2_allOf 25 = .ok (.ishl, 1) := by decide +kernel
theorem dX2_allOf_26 : decode cX2_allOf 26 = .ok (.ior, 1) := by decide +kernel
theorem dX2_allOf_27 : decode cX2_allOf 27 = .ok (.istore_n 2, 1) := by decide +kernel
theorem dX2_allOf_28 : decode cX2_allOf 28 = .ok (.iinc 3 1, 3) := by decide +kernel
theorem dX2_allOf_31 : decode cX2_allOf 31 = .ok (.goto (-27), 3) := by decide +kernel
theorem dX2_allOf_34 : decode cX2_allOf 34 = .ok (.iload_n 2, 1) := by decide +kernel
theorem dX2_allOf_35 : decode cX2_allOf 35 = .ok (.ireturn, 1) := by decide +kernel
theorem dX2_bestParting_0 : decode cX2_bestParting 0 = .ok (.aload_n 0, 1) := by decide +kernel
theorem dX2_bestParting_1 : decode cX2_bestParting 1 = .ok (.iload_n 1, 1) := by decide +kernel
theorem dX2_bestParting_2 : decode cX2_bestParting 2 = .ok (.invokevirtual 35, 3) := by decide +kernel
theorem dX2_bestParting_5 : decode cX2_bestParting 5 = .ok (.istore_n 2, 1) := by decide +kernel
theorem dX2_bestParting_6 : decode cX2_bestParting 6 = .ok (.iconst 0, 1) := by decide +kernel
theorem dX2_bestParting_7 : decode cX2_bestParting 7 = .ok (.istore_n 3, 1) := by decide +kernel
theorem dX2_bestParting_8 : decode cX2_bestParting 8 = .ok (.iconst (-1), 1) := by decide +kernel
theorem dX2_bestParting_9 : decode cX2_bestParting 9 = .ok (.istore 4, 2) := by decide +kernel
theorem dX2_bestParting_11 : decode cX2_bestParting 11 = .ok (.iconst 0, 1) := by decide +kernel
theorem dX2_bestParting_12 : decode cX2_bestParting 12 = .ok (.istore 5, 2) := by decide +kernel
theorem dX2_bestParting_14 : decode cX2_bestParting 14 = .ok (.iload 5, 2) := by decide +kernel
theorem dX2_bestParting_16 : decode cX2_bestParting 16 = .ok (.iconst 1, 1) := by decide +kernel
theorem dX2_bestParting_17 : decode cX2_bestParting 17 = .ok (.aload_n 0, 1) := by decide +kernel
theorem dX2_bestParting_18 : decode cX2_bestParting 18 = .ok (.getfield 31, 3) := by decide +kernel
theorem dX2_bestParting_21 : decode cX2_bestParting 21 = .ok (.ishl, 1) := by decide +kernel
theorem dX2_bestParting_22 : decode cX2_bestParting 22 = .ok (.if_icmp .ge 45, 3) := by decide +kernel
theorem dX2_bestParting_25 : decode cX2_bestParting 25 = .ok (.iload 5, 2) := by decide +kernel
theorem dX2_bestParting_27 : decode cX2_bestParting 27 = .ok (.iload_n 2, 1) := by decide +kernel
theorem dX2_bestParting_28 : decode cX2_bestParting 28 = .ok (.iconst (-1), 1) := by decide +kernel
theorem dX2_bestParting_29 : decode cX2_bestParting 29 = .ok (.ixor, 1) := by decide +kernel
theorem dX2_bestParting_30 : decode cX2_bestParting 30 = .ok (.iand, 1) := by decide +kernel
theorem dX2_bestParting_31 : decode cX2_bestParting 31 = .ok (.ifCond .ne 13, 3) := by decide +kernel
theorem dX2_bestParting_34 : decode cX2_bestParting 34 = .ok (.aload_n 0, 1) := by decide +kernel
theorem dX2_bestParting_35 : decode cX2_bestParting 35 = .ok (.iload_n 1, 1) := by decide +kernel
theorem dX2_bestParting_36 : decode cX2_bestParting 36 = .ok (.iload 5, 2) := by decide +kernel
theorem dX2_bestParting_38 : decode cX2_bestParting 38 = .ok (.invokevirtual 39, 3) := by decide +kernel
theorem dX2_bestParting_41 : decode cX2_bestParting 41 = .ok (.goto 4, 3) := by decide +kernel
theorem dX2_bestParting_44 : decode cX2_bestParting 44 = .ok (.iconst (-1), 1) := by decide +kernel
theorem dX2_bestParting_45 : decode cX2_bestParting 45 = .ok (.istore 6, 2) := by decide +kernel
theorem dX2_bestParting_47 : decode cX2_bestParting 47 = .ok (.iload 6, 2) := by decide +kernel
theorem dX2_bestParting_49 : decode cX2_bestParting 49 = .ok (.iload 4, 2) := by decide +kernel
theorem dX2_bestParting_51 : decode cX2_bestParting 51 = .ok (.if_icmp .le 10, 3) := by decide +kernel
theorem dX2_bestParting_54 : decode cX2_bestParting 54 = .ok (.iload 5, 2) := by decide +kernel
theorem dX2_bestParting_56 : decode cX2_bestParting 56 = .ok (.istore_n 3, 1) := by decide +kernel
theorem dX2_bestParting_57 : decode cX2_bestParting 57 = .ok (.iload 6, 2) := by decide +kernel
theorem dX2_bestParting_59 : decode cX2_bestParting 59 = .ok (.istore 4, 2) := by decide +kernel
theorem dX2_bestParting_61 : decode cX2_bestParting 61 = .ok (.iinc 5 1, 3) := by decide +kernel
theorem dX2_bestParting_64 : decode cX2_bestParting 64 = .ok (.goto (-50), 3) := by decide +kernel
theorem dX2_bestParting_67 : decode cX2_bestParting 67 = .ok (.iload_n 3, 1) := by decide +kernel
theorem dX2_bestParting_68 : decode cX2_bestParting 68 = .ok (.ireturn, 1) := by decide +kernel
theorem dX2_lesserSum_0 : decode cX2_lesserSum 0 = .ok (.iconst 0, 1) := by decide +kernel
theorem dX2_lesserSum_1 : decode cX2_lesserSum 1 = .ok (.istore_n 3, 1) := by decide +kernel
theorem dX2_lesserSum_2 : decode cX2_lesserSum 2 = .ok (.iconst 0, 1) := by decide +kernel
theorem dX2_lesserSum_3 : decode cX2_lesserSum 3 = .ok (.istore 4, 2) := by decide +kernel
theorem dX2_lesserSum_5 : decode cX2_lesserSum 5 = .ok (.iconst 0, 1) := by decide +kernel
theorem dX2_lesserSum_6 : decode cX2_lesserSum 6 = .ok (.istore 5, 2) := by decide +kernel
theorem dX2_lesserSum_8 : decode cX2_lesserSum 8 = .ok (.iload 5, 2) := by decide +kernel
theorem dX2_lesserSum_10 : decode cX2_lesserSum 10 = .ok (.aload_n 0, 1) := by decide +kernel
theorem dX2_lesserSum_11 : decode cX2_lesserSum 11 = .ok (.getfield 31, 3) := by decide +kernel
theorem dX2_lesserSum_14 : decode cX2_lesserSum 14 = .ok (.if_icmp .ge 55, 3) := by decide +kernel
theorem dX2_lesserSum_17 : decode cX2_lesserSum 17 = .ok (.aload_n 0, 1) := by decide +kernel
theorem dX2_lesserSum_18 : decode cX2_lesserSum 18 = .ok (.getfield 15, 3) := by decide +kernel
theorem dX2_lesserSum_21 : decode cX2_lesserSum 21 = .ok (.iload 5, 2) := by decide +kernel
theorem dX2_lesserSum_23 : decode cX2_lesserSum 23 = .ok (.iaload, 1) := by decide +kernel
theorem dX2_lesserSum_24 : decode cX2_lesserSum 24 = .ok (.iload_n 1, 1) := by decide +kernel
theorem dX2_lesserSum_25 : decode cX2_lesserSum 25 = .ok (.if_icmp .ne 38, 3) := by decide +kernel
theorem dX2_lesserSum_28 : decode cX2_lesserSum 28 = .ok (.iload_n 2, 1) := by decide +kernel
theorem dX2_lesserSum_29 : decode cX2_lesserSum 29 = .ok (.iload 5, 2) := by decide +kernel
theorem dX2_lesserSum_31 : decode cX2_lesserSum 31 = .ok (.ishr, 1) := by decide +kernel
theorem dX2_lesserSum_32 : decode cX2_lesserSum 32 = .ok (.iconst 1, 1) := by decide +kernel
theorem dX2_lesserSum_33 : decode cX2_lesserSum 33 = .ok (.iand, 1) := by decide +kernel
theorem dX2_lesserSum_34 : decode cX2_lesserSum 34 = .ok (.iconst 1, 1) := by decide +kernel
theorem dX2_lesserSum_35 : decode cX2_lesserSum 35 = .ok (.if_icmp .ne 16, 3) := by decide +kernel
theorem dX2_lesserSum_38 : decode cX2_lesserSum 38 = .ok (.iload_n 3, 1) := by decide +kernel
theorem dX2_lesserSum_39 : decode cX2_lesserSum 39 = .ok (.aload_n 0, 1) := by decide +kernel
theorem dX2_lesserSum_40 : decode cX2_lesserSum 40 = .ok (.getfield 19, 3) := by decide +kernel
theorem dX2_lesserSum_43 : decode cX2_lesserSum 43 = .ok (.iload 5, 2) := by decide +kernel
theorem dX2_lesserSum_45 : decode cX2_lesserSum 45 = .ok (.iaload, 1) := by decide +kernel
theorem dX2_lesserSum_46 : decode cX2_lesserSum 46 = .ok (.iadd, 1) := by decide +kernel
theorem dX2_lesserSum_47 : decode cX2_lesserSum 47 = .ok (.istore_n 3, 1) := by decide +kernel
theorem dX2_lesserSum_48 : decode cX2_lesserSum 48 = .ok (.goto 15, 3) := by decide +kernel
theorem dX2_lesserSum_51 : decode cX2_lesserSum 51 = .ok (.iload 4, 2) := by decide +kernel
theorem dX2_lesserSum_53 : decode cX2_lesserSum 53 = .ok (.aload_n 0, 1) := by decide +kernel
theorem dX2_lesserSum_54 : decode cX2_lesserSum 54 = .ok (.getfield 22, 3) := by decide +kernel
theorem dX2_lesserSum_57 : decode cX2_lesserSum 57 = .ok (.iload 5, 2) := by decide +kernel
theorem dX2_lesserSum_59 : decode cX2_lesserSum 59 = .ok (.iaload, 1) := by decide +kernel
theorem dX2_lesserSum_60 : decode cX2_lesserSum 60 = .ok (.iadd, 1) := by decide +kernel
theorem dX2_lesserSum_61 : decode cX2_lesserSum 61 = .ok (.istore 4, 2) := by decide +kernel
theorem dX2_lesserSum_63 : decode cX2_lesserSum 63 = .ok (.iinc 5 1, 3) := by decide +kernel
theorem dX2_lesserSum_66 : decode cX2_lesserSum 66 = .ok (.goto (-58), 3) := by decide +kernel
theorem dX2_lesserSum_69 : decode cX2_lesserSum 69 = .ok (.iload_n 3, 1) := by decide +kernel
theorem dX2_lesserSum_70 : decode cX2_lesserSum 70 = .ok (.iload 4, 2) := by decide +kernel
theorem dX2_lesserSum_72 : decode cX2_lesserSum 72 = .ok (.invokestatic 43, 3) := by decide +kernel
theorem dX2_lesserSum_75 : decode cX2_lesserSum 75 = .ok (.ireturn, 1) := by decide +kernel
theorem dX3_init_0 : decode cX3_init 0 = .ok (.aload_n 0, 1) := by decide +kernel
theorem dX3_init_1 : decode cX3_init 1 = .ok (.invokespecial 3, 3) := by decide +kernel
theorem dX3_init_4 : decode cX3_init 4 = .ok (.aload_n 0, 1) := by decide +kernel
theorem dX3_init_5 : decode cX3_init 5 = .ok (.bipush 8, 2) := by decide +kernel
theorem dX3_init_7 : decode cX3_init 7 = .ok (.newarray .int, 2) := by decide +kernel
theorem dX3_init_9 : decode cX3_init 9 = .ok (.putfield 9, 3) := by decide +kernel
theorem dX3_init_12 : decode cX3_init 12 = .ok (.aload_n 0, 1) := by decide +kernel
theorem dX3_init_13 : decode cX3_init 13 = .ok (.bipush 8, 2) := by decide +kernel
theorem dX3_init_15 : decode cX3_init 15 = .ok (.newarray .int, 2) := by decide +kernel
theorem dX3_init_17 : decode cX3_init 17 = .ok (.putfield 15, 3) := by decide +kernel
theorem dX3_init_20 : decode cX3_init 20 = .ok (.aload_n 0, 1) := by decide +kernel
theorem dX3_init_21 : decode cX3_init 21 = .ok (.iconst 4, 1) := by decide +kernel
theorem dX3_init_22 : decode cX3_init 22 = .ok (.newarray .int, 2) := by decide +kernel
theorem dX3_init_24 : decode cX3_init 24 = .ok (.putfield 18, 3) := by decide +kernel
theorem dX3_init_27 : decode cX3_init 27 = .ok (.aload_n 0, 1) := by decide +kernel
theorem dX3_init_28 : decode cX3_init 28 = .ok (.iconst 4, 1) := by decide +kernel
theorem dX3_init_29 : decode cX3_init 29 = .ok (.newarray .int, 2) := by decide +kernel
theorem dX3_init_31 : decode cX3_init 31 = .ok (.putfield 21, 3) := by decide +kernel
theorem dX3_init_34 : decode cX3_init 34 = .ok (.aload_n 0, 1) := by decide +kernel
theorem dX3_init_35 : decode cX3_init 35 = .ok (.iconst 4, 1) := by decide +kernel
theorem dX3_init_36 : decode cX3_init 36 = .ok (.newarray .int, 2) := by decide +kernel
theorem dX3_init_38 : decode cX3_init 38 = .ok (.putfield 24, 3) := by decide +kernel
theorem dX3_init_41 : decode cX3_init 41 = .ok (.aload_n 0, 1) := by decide +kernel
theorem dX3_init_42 : decode cX3_init 42 = .ok (.iconst 4, 1) := by decide +kernel
theorem dX3_init_43 : decode cX3_init 43 = .ok (.newarray .int, 2) := by decide +kernel
theorem dX3_init_45 : decode cX3_init 45 = .ok (.putfield 27, 3) := by decide +kernel
theorem dX3_init_48 : decode cX3_init 48 = .ok (.aload_n 0, 1) := by decide +kernel
theorem dX3_init_49 : decode cX3_init 49 = .ok (.iconst 4, 1) := by decide +kernel
theorem dX3_init_50 : decode cX3_init 50 = .ok (.newarray .int, 2) := by decide +kernel
theorem dX3_init_52 : decode cX3_init 52 = .ok (.putfield 30, 3) := by decide +kernel
theorem dX3_init_55 : decode cX3_init 55 = .ok (.aload_n 0, 1) := by decide +kernel
theorem dX3_init_56 : decode cX3_init 56 = .ok (.aload_n 1, 1) := by decide +kernel
theorem dX3_init_57 : decode cX3_init 57 = .ok (.putfield 33, 3) := by decide +kernel
theorem dX3_init_60 : decode cX3_init 60 = .ok (.return_, 1) := by decide +kernel
theorem dX3_begin_0 : decode cX3_begin 0 = .ok (.aload_n 0, 1) := by decide +kernel
theorem dX3_begin_1 : decode cX3_begin 1 = .ok (.iconst 0, 1) := by decide +kernel
theorem dX3_begin_2 : decode cX3_begin 2 = .ok (.putfield 37, 3) := by decide +kernel
theorem dX3_begin_5 : decode cX3_begin 5 = .ok (.aload_n 0, 1) := by decide +kernel
theorem dX3_begin_6 : decode cX3_begin 6 = .ok (.iconst 0, 1) := by decide +kernel
theorem dX3_begin_7 : decode cX3_begin 7 = .ok (.putfield 41, 3) := by decide +kernel
theorem dX3_begin_10 : decode cX3_begin 10 = .ok (.aload_n 0, 1) := by decide +kernel
theorem dX3_begin_11 : decode cX3_begin 11 = .ok (.iconst 0, 1) := by decide +kernel
theorem dX3_begin_12 : decode cX3_begin 12 = .ok (.putfield 44, 3) := by decide +kernel
theorem dX3_begin_15 : decode cX3_begin 15 = .ok (.iconst 0, 1) := by decide +kernel
theorem dX3_begin_16 : decode cX3_begin 16 = .ok (.istore_n 1, 1) := by decide +kernel
theorem dX3_begin_17 : decode cX3_begin 17 = .ok (.iload_n 1, 1) := by decide +kernel
theorem dX3_begin_18 : decode cX3_begin 18 = .ok (.aload_n 0, 1) := by decide +kernel
theorem dX3_begin_19 : decode cX3_begin 19 = .ok (.getfield 33, 3) := by decide +kernel
theorem dX3_begin_22 : decode cX3_begin 22 = .ok (.getfield 47, 3) := by decide +kernel
theorem dX3_begin_25 : decode cX3_begin 25 = .ok (.if_icmp .ge 31, 3) := by decide +kernel
theorem dX3_begin_28 : decode cX3_begin 28 = .ok (.aload_n 0, 1) := by decide +kernel
theorem dX3_begin_29 : decode cX3_begin 29 = .ok (.getfield 9, 3) := by decide +kernel
theorem dX3_begin_32 : decode cX3_begin 32 = .ok (.iload_n 1, 1) := by decide +kernel
theorem dX3_begin_33 : decode cX3_begin 33 = .ok (.aload_n 0, 1) := by decide +kernel
theorem dX3_begin_34 : decode cX3_begin 34 = .ok (.getfield 33, 3) := by decide +kernel
theorem dX3_begin_37 : decode cX3_begin 37 = .ok (.getfield 52, 3) := by decide +kernel
theorem dX3_begin_40 : decode cX3_begin 40 = .ok (.iload_n 1, 1) := by decide +kernel
theorem dX3_begin_41 : decode cX3_begin 41 = .ok (.iaload, 1) := by decide +kernel
theorem dX3_begin_42 : decode cX3_begin 42 = .ok (.iastore, 1) := by decide +kernel
theorem dX3_begin_43 : decode cX3_begin 43 = .ok (.aload_n 0, 1) := by decide +kernel
theorem dX3_begin_44 : decode cX3_begin 44 = .ok (.getfield 15, 3) := by decide +kernel
theorem dX3_begin_47 : decode cX3_begin 47 = .ok (.iload_n 1, 1) := by decide +kernel
theorem dX3_begin_48 : decode cX3_begin 48 = .ok (.iconst 0, 1) := by decide +kernel
theorem dX3_begin_49 : decode cX3_begin 49 = .ok (.iastore, 1) := by decide +kernel
theorem dX3_begin_50 : decode cX3_begin 50 = .ok (.iinc 1 1, 3) := by decide +kernel
theorem dX3_begin_53 : decode cX3_begin 53 = .ok (.goto (-36), 3) := by decide +kernel
theorem dX3_begin_56 : decode cX3_begin 56 = .ok (.iconst 0, 1) := by decide +kernel
theorem dX3_begin_57 : decode cX3_begin 57 = .ok (.istore_n 1, 1) := by decide +kernel
theorem dX3_begin_58 : decode cX3_begin 58 = .ok (.iload_n 1, 1) := by decide +kernel
theorem dX3_begin_59 : decode cX3_begin 59 = .ok (.aload_n 0, 1) := by decide +kernel
theorem dX3_begin_60 : decode cX3_begin 60 = .ok (.getfield 33, 3) := by decide +kernel
theorem dX3_begin_63 : decode cX3_begin 63 = .ok (.getfield 55, 3) := by decide +kernel
theorem dX3_begin_66 : decode cX3_begin 66 = .ok (.if_icmp .ge 60, 3) := by decide +kernel
theorem dX3_begin_69 : decode cX3_begin 69 = .ok (.aload_n 0, 1) := by decide +kernel
theorem dX3_begin_70 : decode cX3_begin 70 = .ok (.getfield 18, 3) := by decide +kernel
theorem dX3_begin_73 : decode cX3_begin 73 = .ok (.iload_n 1, 1) := by decide +kernel
theorem dX3_begin_74 : decode cX3_begin 74 = .ok (.aload_n 0, 1) := by decide +kernel
theorem dX3_begin_75 : decode cX3_begin 75 = .ok (.getfield 33, 3) := by decide +kernel
theorem dX3_begin_78 : decode cX3_begin 78 = .ok (.getfield 58, 3) := by decide +kernel
theorem dX3_begin_81 : decode cX3_begin 81 = .ok (.iload_n 1, 1) := by decide +kernel
theorem dX3_begin_82 : decode cX3_begin 82 = .ok (.iaload, 1) := by decide +kernel
theorem dX3_begin_83 : decode cX3_begin 83 = .ok (.iastore, 1) := by decide +kernel
theorem dX3_begin_84 : decode cX3_begin 84 = .ok (.aload_n 0, 1) := by decide +kernel
theorem dX3_begin_85 : decode cX3_begin 85 = .ok (.getfield 21, 3) := by decide +kernel
theorem dX3_begin_88 : decode cX3_begin 88 = .ok (.iload_n 1, 1) := by decide +kernel
theorem dX3_begin_89 : decode cX3_begin 89 = .ok (.iconst 0, 1) := by decide +kernel
theorem dX3_begin_90 : decode cX3_begin 90 = .ok (.iastore, 1) := by decide +kernel
theorem dX3_begin_91 : decode cX3_begin 91 = .ok (.aload_n 0, 1) := by decide +kernel
theorem dX3_begin_92 : decode cX3_begin 92 = .ok (.getfield 24, 3) := by decide +kernel
theorem dX3_begin_95 : decode cX3_begin 95 = .ok (.iload_n 1, 1) := by decide +kernel
theorem dX3_begin_96 : decode cX3_begin 96 = .ok (.aload_n 0, 1) := by decide +kernel
theorem dX3_begin_97 : decode cX3_begin 97 = .ok (.getfield 33, 3) := by decide +kernel
theorem dX3_begin_100 : decode cX3_begin 100 = .ok (.getfield 61, 3) := by decide +kernel
theorem dX3_begin_103 : decode cX3_begin 103 = .ok (.iload_n 1, 1) := by decide +kernel
theorem dX3_begin_104 : decode cX3_begin 104 = .ok (.iaload, 1) := by decide +kernel
theorem dX3_begin_105 : decode cX3_begin 105 = .ok (.iastore, 1) := by decide +kernel
theorem dX3_begin_106 : decode cX3_begin 106 = .ok (.aload_n 0, 1) := by decide +kernel
theorem dX3_begin_107 : decode cX3_begin 107 = .ok (.getfield 27, 3) := by decide +kernel
theorem dX3_begin_110 : decode cX3_begin 110 = .ok (.iload_n 1, 1) := by decide +kernel
theorem dX3_begin_111 : decode cX3_begin 111 = .ok (.iconst 0, 1) := by decide +kernel
theorem dX3_begin_112 : decode cX3_begin 112 = .ok (.iastore, 1) := by decide +kernel
theorem dX3_begin_113 : decode cX3_begin 113 = .ok (.aload_n 0, 1) := by decide +kernel
theorem dX3_begin_114 : decode cX3_begin 114 = .ok (.getfield 30, 3) := by decide +kernel
theorem dX3_begin_117 : decode cX3_begin 117 = .ok (.iload_n 1, 1) := by decide +kernel
theorem dX3_begin_118 : decode cX3_begin 118 = .ok (.iconst 0, 1) := by decide +kernel
theorem dX3_begin_119 : decode cX3_begin 119 = .ok (.iastore, 1) := by decide +kernel
theorem dX3_begin_120 : decode cX3_begin 120 = .ok (.iinc 1 1, 3) := by decide +kernel
theorem dX3_begin_123 : decode cX3_begin 123 = .ok (.goto (-65), 3) := by decide +kernel
theorem dX3_begin_126 : decode cX3_begin 126 = .ok (.return_, 1) := by decide +kernel
theorem dX3_copyFrom_0 : decode cX3_copyFrom 0 = .ok (.aload_n 0, 1) := by decide +kernel
theorem dX3_copyFrom_1 : decode cX3_copyFrom 1 = .ok (.aload_n 1, 1) := by decide +kernel
theorem dX3_copyFrom_2 : decode cX3_copyFrom 2 = .ok (.getfield 37, 3) := by decide +kernel
theorem dX3_copyFrom_5 : decode cX3_copyFrom 5 = .ok (.putfield 37, 3) := by decide +kernel
theorem dX3_copyFrom_8 : decode cX3_copyFrom 8 = .ok (.aload_n 0, 1) := by decide +kernel
theorem dX3_copyFrom_9 : decode cX3_copyFrom 9 = .ok (.aload_n 1, 1) := by decide +kernel
theorem dX3_copyFrom_10 : decode cX3_copyFrom 10 = .ok (.getfield 41, 3) := by decide +kernel
theorem dX3_copyFrom_13 : decode cX3_copyFrom 13 = .ok (.putfield 41, 3) := by decide +kernel
theorem dX3_copyFrom_16 : decode cX3_copyFrom 16 = .ok (.aload_n 0, 1) := by decide +kernel
theorem dX3_copyFrom_17 : decode cX3_copyFrom 17 = .ok (.aload_n 1, 1) := by decide +kernel
theorem dX3_copyFrom_18 : decode cX3_copyFrom 18 = .ok (.getfield 44, 3) := by decide +kernel
theorem dX3_copyFrom_21 : decode cX3_copyFrom 21 = .ok (.putfield 44, 3) := by decide +kernel
theorem dX3_copyFrom_24 : decode cX3_copyFrom 24 = .ok (.aload_n 1, 1) := by decide +kernel
theorem dX3_copyFrom_25 : decode cX3_copyFrom 25 = .ok (.getfield 9, 3) := by decide +kernel
theorem dX3_copyFrom_28 : decode cX3_copyFrom 28 = .ok (.iconst 0, 1) := by decide +kernel
theorem dX3_copyFrom_29 : decode cX3_copyFrom 29 = .ok (.aload_n 0, 1) := by decide +kernel
theorem dX3_copyFrom_30 : decode cX3_copyFrom 30 = .ok (.getfield 9, 3) := by decide +kernel
theorem dX3_copyFrom_33 : decode cX3_copyFrom 33 = .ok (.iconst 0, 1) := by decide +kernel
theorem dX3_copyFrom_34 : decode cX3_copyFrom 34 = .ok (.bipush 8, 2) := by decide +kernel
theorem dX3_copyFrom_36 : decode cX3_copyFrom 36 = .ok (.invokestatic 64, 3) := by decide +kernel
theorem dX3_copyFrom_39 : decode cX3_copyFrom 39 = .ok (.aload_n 1, 1) := by decide +kernel
theorem dX3_copyFrom_40 : decode cX3_copyFrom 40 = .ok (.getfield 15, 3) := by decide +kernel
theorem dX3_copyFrom_43 : decode cX3_copyFrom 43 = .ok (.iconst 0, 1) := by decide +kernel
theorem dX3_copyFrom_44 : decode cX3_copyFrom 44 = .ok (.aload_n 0, 1) := by decide +kernel
theorem dX3_copyFrom_45 : decode cX3_copyFrom 45 = .ok (.getfield 15, 3) := by decide +kernel
theorem dX3_copyFrom_48 : decode cX3_copyFrom 48 = .ok (.iconst 0, 1) := by decide +kernel
theorem dX3_copyFrom_49 : decode cX3_copyFrom 49 = .ok (.bipush 8, 2) := by decide +kernel
theorem dX3_copyFrom_51 : decode cX3_copyFrom 51 = .ok (.invokestatic 64, 3) := by decide +kernel
theorem dX3_copyFrom_54 : decode cX3_copyFrom 54 = .ok (.aload_n 1, 1) := by decide +kernel
theorem dX3_copyFrom_55 : decode cX3_copyFrom 55 = .ok (.getfield 18, 3) := by decide +kernel
theorem dX3_copyFrom_58 : decode cX3_copyFrom 58 = .ok (.iconst 0, 1) := by decide +kernel
theorem dX3_copyFrom_59 : decode cX3_copyFrom 59 = .ok (.aload_n 0, 1) := by decide +kernel
theorem dX3_copyFrom_60 : decode cX3_copyFrom 60 = .ok (.getfield 18, 3) := by decide +kernel
theorem dX3_copyFrom_63 : decode cX3_copyFrom 63 = .ok (.iconst 0, 1) := by decide +kernel
theorem dX3_copyFrom_64 : decode cX3_copyFrom 64 = .ok (.iconst 4, 1) := by decide +kernel
theorem dX3_copyFrom_65 : decode cX3_copyFrom 65 = .ok (.invokestatic 64, 3) := by decide +kernel
theorem dX3_copyFrom_68 : decode cX3_copyFrom 68 = .ok (.aload_n 1, 1) := by decide +kernel
theorem dX3_copyFrom_69 : decode cX3_copyFrom 69 = .ok (.getfield 21, 3) := by decide +kernel
theorem dX3_copyFrom_72 : decode cX3_copyFrom 72 = .ok (.iconst 0, 1) := by decide +kernel
theorem dX3_copyFrom_73 : decode cX3_copyFrom 73 = .ok (.aload_n 0, 1) := by decide +kernel
theorem dX3_copyFrom_74 : decode cX3_copyFrom 74 = .ok (.getfield 21, 3) := by decide +kernel
theorem dX3_copyFrom_77 : decode cX3_copyFrom 77 = .ok (.iconst 0, 1) := by decide +kernel
theorem dX3_copyFrom_78 : decode cX3_copyFrom 78 = .ok (.iconst 4, 1) := by decide +kernel
theorem dX3_copyFrom_79 : decode cX3_copyFrom 79 = .ok (.invokestatic 64, 3) := by decide +kernel
theorem dX3_copyFrom_82 : decode cX3_copyFrom 82 = .ok (.aload_n 1, 1) := by decide +kernel
theorem dX3_copyFrom_83 : decode cX3_copyFrom 83 = .ok (.getfield 24, 3) := by decide +kernel
theorem dX3_copyFrom_86 : decode cX3_copyFrom 86 = .ok (.iconst 0, 1) := by decide +kernel
theorem dX3_copyFrom_87 : decode cX3_copyFrom 87 = .ok (.aload_n 0, 1) := by decide +kernel
theorem dX3_copyFrom_88 : decode cX3_copyFrom 88 = .ok (.getfield 24, 3) := by decide +kernel
theorem dX3_copyFrom_91 : decode cX3_copyFrom 91 = .ok (.iconst 0, 1) := by decide +kernel
theorem dX3_copyFrom_92 : decode cX3_copyFrom 92 = .ok (.iconst 4, 1) := by decide +kernel
theorem dX3_copyFrom_93 : decode cX3_copyFrom 93 = .ok (.invokestatic 64, 3) := by decide +kernel
theorem dX3_copyFrom_96 : decode cX3_copyFrom 96 = .ok (.aload_n 1, 1) := by decide +kernel
theorem dX3_copyFrom_97 : decode cX3_copyFrom 97 = .ok (.getfield 27, 3) := by decide +kernel
theorem dX3_copyFrom_100 : decode cX3_copyFrom 100 = .ok (.iconst 0, 1) := by decide +kernel
theorem dX3_copyFrom_101 : decode cX3_copyFrom 101 = .ok (.aload_n 0, 1) := by decide +kernel
theorem dX3_copyFrom_102 : decode cX3_copyFrom 102 = .ok (.getfield 27, 3) := by decide +kernel
theorem dX3_copyFrom_105 : decode cX3_copyFrom 105 = .ok (.iconst 0, 1) := by decide +kernel
theorem dX3_copyFrom_106 : decode cX3_copyFrom 106 = .ok (.iconst 4, 1) := by decide +kernel
theorem dX3_copyFrom_107 : decode cX3_copyFrom 107 = .ok (.invokestatic 64, 3) := by decide +kernel
theorem dX3_copyFrom_110 : decode cX3_copyFrom 110 = .ok (.aload_n 1, 1) := by decide +kernel
theorem dX3_copyFrom_111 : decode cX3_copyFrom 111 = .ok (.getfield 30, 3) := by decide +kernel
theorem dX3_copyFrom_114 : decode cX3_copyFrom 114 = .ok (.iconst 0, 1) := by decide +kernel
theorem dX3_copyFrom_115 : decode cX3_copyFrom 115 = .ok (.aload_n 0, 1) := by decide +kernel
theorem dX3_copyFrom_116 : decode cX3_copyFrom 116 = .ok (.getfield 30, 3) := by decide +kernel
theorem dX3_copyFrom_119 : decode cX3_copyFrom 119 = .ok (.iconst 0, 1) := by decide +kernel
theorem dX3_copyFrom_120 : decode cX3_copyFrom 120 = .ok (.iconst 4, 1) := by decide +kernel
theorem dX3_copyFrom_121 : decode cX3_copyFrom 121 = .ok (.invokestatic 64, 3) := by decide +kernel
theorem dX3_copyFrom_124 : decode cX3_copyFrom 124 = .ok (.return_, 1) := by decide +kernel
theorem dX3_isWoken_0 : decode cX3_isWoken 0 = .ok (.aload_n 0, 1) := by decide +kernel
theorem dX3_isWoken_1 : decode cX3_isWoken 1 = .ok (.getfield 44, 3) := by decide +kernel
theorem dX3_isWoken_4 : decode cX3_isWoken 4 = .ok (.iload_n 1, 1) := by decide +kernel
theorem dX3_isWoken_5 : decode cX3_isWoken 5 = .ok (.ishr, 1) := by decide +kernel
theorem dX3_isWoken_6 : decode cX3_isWoken 6 = .ok (.iconst 1, 1) := by decide +kernel
theorem dX3_isWoken_7 : decode cX3_isWoken 7 = .ok (.iand, 1) := by decide +kernel
theorem dX3_isWoken_8 : decode cX3_isWoken 8 = .ok (.iconst 1, 1) := by decide +kernel
theorem dX3_isWoken_9 : decode cX3_isWoken 9 = .ok (.if_icmp .ne 7, 3) := by decide +kernel
theorem dX3_isWoken_12 : decode cX3_isWoken 12 = .ok (.iconst 1, 1) := by decide +kernel
theorem dX3_isWoken_13 : decode cX3_isWoken 13 = .ok (.goto 4, 3) := by decide +kernel
theorem dX3_isWoken_16 : decode cX3_isWoken 16 = .ok (.iconst 0, 1) := by decide +kernel
theorem dX3_isWoken_17 : decode cX3_isWoken 17 = .ok (.ireturn, 1) := by decide +kernel
theorem dX3_isAwake_0 : decode cX3_isAwake 0 = .ok (.aload_n 0, 1) := by decide +kernel
theorem dX3_isAwake_1 : decode cX3_isAwake 1 = .ok (.iload_n 1, 1) := by decide +kernel
theorem dX3_isAwake_2 : decode cX3_isAwake 2 = .ok (.invokevirtual 70, 3) := by decide +kernel
theorem dX3_isAwake_5 : decode cX3_isAwake 5 = .ok (.ifCond .ne 18, 3) := by decide +kernel
theorem dX3_isAwake_8 : decode cX3_isAwake 8 = .ok (.aload_n 0, 1) := by decide +kernel
theorem dX3_isAwake_9 : decode cX3_isAwake 9 = .ok (.getfield 33, 3) := by decide +kernel
theorem dX3_isAwake_12 : decode cX3_isAwake 12 = .ok (.iload_n 1, 1) := by decide +kernel
theorem dX3_isAwake_13 : decode cX3_isAwake 13 = .ok (.aload_n 0, 1) := by decide +kernel
theorem dX3_isAwake_14 : decode cX3_isAwake 14 = .ok (.getfield 37, 3) := by decide +kernel
theorem dX3_isAwake_17 : decode cX3_isAwake 17 = .ok (.invokevirtual 74, 3) := by decide +kernel
theorem dX3_isAwake_20 : decode cX3_isAwake 20 = .ok (.ifCond .eq 7, 3) := by decide +kernel
theorem dX3_isAwake_23 : decode cX3_isAwake 23 = .ok (.iconst 1, 1) := by decide +kernel
theorem dX3_isAwake_24 : decode cX3_isAwake 24 = .ok (.goto 4, 3) := by decide +kernel
theorem dX3_isAwake_27 : decode cX3_isAwake 27 = .ok (.iconst 0, 1) := by decide +kernel
theorem dX3_isAwake_28 : decode cX3_isAwake 28 = .ok (.ireturn, 1) := by decide +kernel
theorem dX3_isWilling_0 : decode cX3_isWilling 0 = .ok (.aload_n 0, 1) := by decide +kernel
theorem dX3_isWilling_1 : decode cX3_isWilling 1 = .ok (.getfield 9, 3) := by decide +kernel
theorem dX3_isWilling_4 : decode cX3_isWilling 4 = .ok (.iload_n 1, 1) := by decide +kernel
theorem dX3_isWilling_5 : decode cX3_isWilling 5 = .ok (.iaload, 1) := by decide +kernel
theorem dX3_isWilling_6 : decode cX3_isWilling 6 = .ok (.aload_n 0, 1) := by decide +kernel
theorem dX3_isWilling_7 : decode cX3_isWilling 7 = .ok (.getfield 33, 3) := by decide +kernel
theorem dX3_isWilling_10 : decode cX3_isWilling 10 = .ok (.getfield 78, 3) := by decide +kernel
theorem dX3_isWilling_13 : decode cX3_isWilling 13 = .ok (.if_icmp .lt 15, 3) := by decide +kernel
theorem dX3_isWilling_16 : decode cX3_isWilling 16 = .ok (.aload_n 0, 1) := by decide +kernel
theorem dX3_isWilling_17 : decode cX3_isWilling 17 = .ok (.iload_n 1, 1) := by decide +kernel
theorem dX3_isWilling_18 : decode cX3_isWilling 18 = .ok (.invokevirtual 81, 3) := by decide +kernel
theorem dX3_isWilling_21 : decode cX3_isWilling 21 = .ok (.ifCond .eq 7, 3) := by decide +kernel
theorem dX3_isWilling_24 : decode cX3_isWilling 24 = .ok (.iconst 1, 1) := by decide +kernel
theorem dX3_isWilling_25 : decode cX3_isWilling 25 = .ok (.goto 4, 3) := by decide +kernel
theorem dX3_isWilling_28 : decode cX3_isWilling 28 = .ok (.iconst 0, 1) := by decide +kernel
theorem dX3_isWilling_29 : decode cX3_isWilling 29 = .ok (.ireturn, 1) := by decide +kernel
theorem dX3_isLapsed_0 : decode cX3_isLapsed 0 = .ok (.aload_n 0, 1) := by decide +kernel
theorem dX3_isLapsed_1 : decode cX3_isLapsed 1 = .ok (.getfield 41, 3) := by decide +kernel
theorem dX3_isLapsed_4 : decode cX3_isLapsed 4 = .ok (.iload_n 1, 1) := by decide +kernel
theorem dX3_isLapsed_5 : decode cX3_isLapsed 5 = .ok (.ishr, 1) := by decide +kernel
theorem dX3_isLapsed_6 : decode cX3_isLapsed 6 = .ok (.iconst 1, 1) := by decide +kernel
theorem dX3_isLapsed_7 : decode cX3_isLapsed 7 = .ok (.iand, 1) := by decide +kernel
theorem dX3_isLapsed_8 : decode cX3_isLapsed 8 = .ok (.iconst 1, 1) := by decide +kernel
theorem dX3_isLapsed_9 : decode cX3_isLapsed 9 = .ok (.if_icmp .ne 7, 3) := by decide +kernel
theorem dX3_isLapsed_12 : decode cX3_isLapsed 12 = .ok (.iconst 1, 1) := by decide +kernel
theorem dX3_isLapsed_13 : decode cX3_isLapsed 13 = .ok (.goto 4, 3) := by decide +kernel
theorem dX3_isLapsed_16 : decode cX3_isLapsed 16 = .ok (.iconst 0, 1) := by decide +kernel
theorem dX3_isLapsed_17 : decode cX3_isLapsed 17 = .ok (.ireturn, 1) := by decide +kernel
theorem dX3_awakeBits_0 : decode cX3_awakeBits 0 = .ok (.iconst 0, 1) := by decide +kernel
theorem dX3_awakeBits_1 : decode cX3_awakeBits 1 = .ok (.istore_n 1, 1) := by decide +kernel
theorem dX3_awakeBits_2 : decode cX3_awakeBits 2 = .ok (.iconst 0, 1) := by decide +kernel
theorem dX3_awakeBits_3 : decode cX3_awakeBits 3 = .ok (.istore_n 2, 1) := by decide +kernel
theorem dX3_awakeBits_4 : decode cX3_awakeBits 4 = .ok (.iload_n 2, 1) := by decide +kernel
theorem dX3_awakeBits_5 : decode cX3_awakeBits 5 = .ok (.aload_n 0, 1) := by decide +kernel
theorem dX3_awakeBits_6 : decode cX3_awakeBits 6 = .ok (.getfield 33, 3) := by decide +kernel
theorem dX3_awakeBits_9 : decode cX3_awakeBits 9 = .ok (.getfield 47, 3) := by decide +kernel
theorem dX3_awakeBits_12 : decode cX3_awakeBits 12 = .ok (.if_icmp .ge 23, 3) := by decide +kernel
theorem dX3_awakeBits_15 : decode cX3_awakeBits 15 = .ok (.aload_n 0, 1) := by decide +kernel
theorem dX3_awakeBits_16 : decode cX3_awakeBits 16 = .ok (.iload_n 2, 1) := by decide +kernel
theorem dX3_awakeBits_17 : decode cX3_awakeBits 17 = .ok (.invokevirtual 81, 3) := by decide +kernel
theorem dX3_awakeBits_20 : decode cX3_awakeBits 20 = .ok (.ifCond .eq 9, 3) := by decide +kernel
theorem dX3_awakeBits_23 : decode cX3_awakeBits 23 = .ok (.iload_n 1, 1) := by decide +kernel
theorem dX3_awakeBits_24 : decode cX3_awakeBits 24 = .ok (.iconst 1, 1) := by decide +kernel
theorem dX3_awakeBits_25 : decode cX3_awakeBits 25 = .ok (.iload_n 2, 1) := by decide +kernel
theorem dX3_awakeBits_26 : decode cX3_awakeBits 26 = .ok (.ishl, 1) := by decide +kernel
theorem dX3_awakeBits_27 : decode cX3_awakeBits 27 = .ok (.ior, 1) := by decide +kernel
theorem dX3_awakeBits_28 : decode cX3_awakeBits 28 = .ok (.istore_n 1, 1) := by decide +kernel
theorem dX3_awakeBits_29 : decode cX3_awakeBits 29 = .ok (.iinc 2 1, 3) := by decide +kernel
theorem dX3_awakeBits_32 : decode cX3_awakeBits 32 = .ok (.goto (-28), 3) := by decide +kernel
theorem dX3_awakeBits_35 : decode cX3_awakeBits 35 = .ok (.iload_n 1, 1) := by decide +kernel
theorem dX3_awakeBits_36 : decode cX3_awakeBits 36 = .ok (.ireturn, 1) := by decide +kernel
theorem dX3_sumOverGlasses_0 : decode cX3_sumOverGlasses 0 = .ok (.iconst 0, 1) := by decide +kernel
theorem dX3_sumOverGlasses_1 : decode cX3_sumOverGlasses 1 = .ok (.istore_n 2, 1) := by decide +kernel
theorem dX3_sumOverGlasses_2 : decode cX3_sumOverGlasses 2 = .ok (.iconst 0, 1) := by decide +kernel
theorem dX3_sumOverGlasses_3 : decode cX3_sumOverGlasses 3 = .ok (.istore_n 3, 1) := by decide +kernel
theorem dX3_sumOverGlasses_4 : decode cX3_sumOverGlasses 4 = .ok (.iload_n 3, 1) := by decide +kernel
theorem dX3_sumOverGlasses_5 : decode cX3_sumOverGlasses 5 = .ok (.aload_n 0, 1) := by decide +kernel
theorem dX3_sumOverGlasses_6 : decode cX3_sumOverGlasses 6 = .ok (.getfield 33, 3) := by decide +kernel
theorem dX3_sumOverGlasses_9 : decode cX3_sumOverGlasses 9 = .ok (.getfield 55, 3) := by decide +kernel
theorem dX3_sumOverGlasses_12 : decode cX3_sumOverGlasses 12 = .ok (.if_icmp .ge 21, 3) := by decide +kernel
theorem dX3_sumOverGlasses_15 : decode cX3_sumOverGlasses 15 = .ok (.iload_n 3, 1) := by decide +kernel
theorem dX3_sumOverGlasses_16 : decode cX3_sumOverGlasses 16 = .ok (.aload_n 1, 1) := by decide +kernel
theorem dX3_sumOverGlasses_17 : decode cX3_sumOverGlasses 17 = .ok (.arraylength, 1) := by decide +kernel
theorem dX3_sumOverGlasses_18 : decode cX3_sumOverGlasses 18 = .ok (.if_icmp .ge 15, 3) := by decide +kernel
theorem dX3_sumOverGlasses_21 : decode cX3_sumOverGlasses 21 = .ok (.iload_n 2, 1) := by decide +kernel
theorem dX3_sumOverGlasses_22 : decode cX3_sumOverGlasses 22 = .ok (.aload_n 1, 1) := by decide +kernel
theorem dX3_sumOverGlasses_23 : decode cX3_sumOverGlasses 23 = .ok (.iload_n 3, 1) := by decide +kernel
theorem dX3_sumOverGlasses_24 : decode cX3_sumOverGlasses 24 = .ok (.iaload, 1) := by decide +kernel
theorem dX3_sumOverGlasses_25 : decode cX3_sumOverGlasses 25 = .ok (.iadd, 1) := by decide +kernel
theorem dX3_sumOverGlasses_26 : decode cX3_sumOverGlasses 26 = .ok (.istore_n 2, 1) := by decide +kernel
theorem dX3_sumOverGlasses_27 : decode cX3_sumOverGlasses 27 = .ok (.iinc 3 1, 3) := by decide +kernel
theorem dX3_sumOverGlasses_30 : decode cX3_sumOverGlasses 30 = .ok (.goto (-26), 3) := by decide +kernel
theorem dX3_sumOverGlasses_33 : decode cX3_sumOverGlasses 33 = .ok (.iload_n 2, 1) := by decide +kernel
theorem dX3_sumOverGlasses_34 : decode cX3_sumOverGlasses 34 = .ok (.ireturn, 1) := by decide +kernel
theorem dX3_hoursOf_0 : decode cX3_hoursOf 0 = .ok (.iload_n 1, 1) := by decide +kernel
theorem dX3_hoursOf_1 : decode cX3_hoursOf 1 = .ok (.sipush 600, 3) := by decide +kernel
theorem dX3_hoursOf_4 : decode cX3_hoursOf 4 = .ok (.aload_n 0, 1) := by decide +kernel
theorem dX3_hoursOf_5 : decode cX3_hoursOf 5 = .ok (.getfield 37, 3) := by decide +kernel
theorem dX3_hoursOf_8 : decode cX3_hoursOf 8 = .ok (.isub, 1) := by decide +kernel
theorem dX3_hoursOf_9 : decode cX3_hoursOf 9 = .ok (.invokestatic 84, 3) := by decide +kernel
theorem dX3_hoursOf_12 : decode cX3_hoursOf 12 = .ok (.ireturn, 1) := by decide +kernel
theorem dX3_runsAt_0 : decode cX3_runsAt 0 = .ok (.aload_n 0, 1) := by decide +kernel
theorem dX3_runsAt_1 : decode cX3_runsAt 1 = .ok (.getfield 21, 3) := by decide +kernel
theorem dX3_runsAt_4 : decode cX3_runsAt 4 = .ok (.iload_n 1, 1) := by decide +kernel
theorem dX3_runsAt_5 : decode cX3_runsAt 5 = .ok (.iaload, 1) := by decide +kernel
theorem dX3_runsAt_6 : decode cX3_runsAt 6 = .ok (.iconst 2, 1) := by decide +kernel
theorem dX3_runsAt_7 : decode cX3_runsAt 7 = .ok (.if_icmp .ne 5, 3) := by decide +kernel
theorem dX3_runsAt_10 : decode cX3_runsAt 10 = .ok (.iconst 0, 1) := by decide +kernel
theorem dX3_runsAt_11 : decode cX3_runsAt 11 = .ok (.ireturn, 1) := by decide +kernel
theorem dX3_runsAt_12 : decode cX3_runsAt 12 = .ok (.aload_n 0, 1) := by decide +kernel
theorem dX3_runsAt_13 : decode cX3_runsAt 13 = .ok (.getfield 24, 3) := by decide +kernel
theorem dX3_runsAt_16 : decode cX3_runsAt 16 = .ok (.iload_n 1, 1) := by decide +kernel
theorem dX3_runsAt_17 : decode cX3_runsAt 17 = .ok (.iaload, 1) := by decide +kernel
theorem dX3_runsAt_18 : decode cX3_runsAt 18 = .ok (.istore_n 3, 1) := by decide +kernel
theorem dX3_runsAt_19 : decode cX3_runsAt 19 = .ok (.aload_n 0, 1) := by decide +kernel
theorem dX3_runsAt_20 : decode cX3_runsAt 20 = .ok (.getfield 21, 3) := by decide +kernel
theorem dX3_runsAt_23 : decode cX3_runsAt 23 = .ok (.iload_n 1, 1) := by decide +kernel
theorem dX3_runsAt_24 : decode cX3_runsAt 24 = .ok (.iaload, 1) := by decide +kernel
theorem dX3_runsAt_25 : decode cX3_runsAt 25 = .ok (.iconst 1, 1) := by decide +kernel
theorem dX3_runsAt_26 : decode cX3_runsAt 26 = .ok (.if_icmp .ne 11, 3) := by decide +kernel
theorem dX3_runsAt_29 : decode cX3_runsAt 29 = .ok (.iconst 1, 1) := by decide +kernel
theorem dX3_runsAt_30 : decode cX3_runsAt 30 = .ok (.iload_n 3, 1) := by decide +kernel
theorem dX3_runsAt_31 : decode cX3_runsAt 31 = .ok (.iconst 2, 1) := by decide +kernel
theorem dX3_runsAt_32 : decode cX3_runsAt 32 = .ok (.idiv, 1) := by decide +kernel
theorem dX3_runsAt_33 : decode cX3_runsAt 33 = .ok (.invokestatic 90, 3) := by decide +kernel
theorem dX3_runsAt_36 : decode cX3_runsAt 36 = .ok (.istore_n 3, 1) := by decide +kernel
theorem dX3_runsAt_37 : decode cX3_runsAt 37 = .ok (.aload_n 0, 1) := by decide +kernel
theorem dX3_runsAt_38 : decode cX3_runsAt 38 = .ok (.getfield 33, 3) := by decide +kernel
theorem dX3_runsAt_41 : decode cX3_runsAt 41 = .ok (.iload_n 2, 1) := by decide +kernel
theorem dX3_runsAt_42 : decode cX3_runsAt 42 = .ok (.invokevirtual 93, 3) := by decide +kernel
theorem dX3_runsAt_45 : decode cX3_runsAt 45 = .ok (.ifCond .eq 13, 3) := by decide +kernel
theorem dX3_runsAt_48 : decode cX3_runsAt 48 = .ok (.iconst 1, 1) := by decide +kernel
theorem dX3_runsAt_49 : decode cX3_runsAt 49 = .ok (.iload_n 3, 1) := by decide +kernel
theorem dX3_runsAt_50 : decode cX3_runsAt 50 = .ok (.iconst 2, 1) := by decide +kernel
theorem dX3_runsAt_51 : decode cX3_runsAt 51 = .ok (.idiv, 1) := by decide +kernel
theorem dX3_runsAt_52 : decode cX3_runsAt 52 = .ok (.invokestatic 90, 3) := by decide +kernel
theorem dX3_runsAt_55 : decode cX3_runsAt 55 = .ok (.goto 4, 3) := by decide +kernel
theorem dX3_runsAt_58 : decode cX3_runsAt 58 = .ok (.iload_n 3, 1) := by decide +kernel
theorem dX3_runsAt_59 : decode cX3_runsAt 59 = .ok (.ireturn, 1) := by decide +kernel
theorem dX3_whyNot_0 : decode cX3_whyNot 0 = .ok (.iload_n 1, 1) := by decide +kernel
theorem dX3_whyNot_1 : decode cX3_whyNot 1 = .ok (.tableswitch 131 0 5 #[39, 45, 59, 65, 72, 103], 39) := by decide +kernel
theorem dX3_whyNot_40 : decode cX3_whyNot 40 = .ok (.aload_n 0, 1) := by decide +kernel
theorem dX3_whyNot_41 : decode cX3_whyNot 41 = .ok (.iload_n 2, 1) := by decide +kernel
theorem dX3_whyNot_42 : decode cX3_whyNot 42 = .ok (.invokevirtual 96, 3) := by decide +kernel
theorem dX3_whyNot_45 : decode cX3_whyNot 45 = .ok (.ireturn, 1) := by decide +kernel
theorem dX3_whyNot_46 : decode cX3_whyNot 46 = .ok (.aload_n 0, 1) := by decide +kernel
theorem dX3_whyNot_47 : decode cX3_whyNot 47 = .ok (.iload_n 2, 1) := by decide +kernel
theorem dX3_whyNot_48 : decode cX3_whyNot 48 = .ok (.invokevirtual 81, 3) := by decide +kernel
theorem dX3_whyNot_51 : decode cX3_whyNot 51 = .ok (.ifCond .eq 7, 3) := by decide +kernel
theorem dX3_whyNot_54 : decode cX3_whyNot 54 = .ok (.iconst 1, 1) := by decide +kernel
theorem dX3_whyNot_55 : decode cX3_whyNot 55 = .ok (.goto 4, 3) := by decide +kernel
theorem dX3_whyNot_58 : decode cX3_whyNot 58 = .ok (.iconst 0, 1) := by decide +kernel
theorem dX3_whyNot_59 : decode cX3_whyNot 59 = .ok (.ireturn, 1) := by decide +kernel
theorem dX3_whyNot_60 : decode cX3_whyNot 60 = .ok (.aload_n 0, 1) := by decide +kernel
theorem dX3_whyNot_61 : decode cX3_whyNot 61 = .ok (.iload_n 2, 1) := by decide +kernel
theorem dX3_whyNot_62 : decode cX3_whyNot 62 = .ok (.invokevirtual 100, 3) := by decide +kernel
theorem dX3_whyNot_65 : decode cX3_whyNot 65 = .ok (.ireturn, 1) := by decide +kernel
theorem dX3_whyNot_66 : decode cX3_whyNot 66 = .ok (.aload_n 0, 1) := by decide +kernel
theorem dX3_whyNot_67 : decode cX3_whyNot 67 = .ok (.iload_n 2, 1) := by decide +kernel
theorem dX3_whyNot_68 : decode cX3_whyNot 68 = .ok (.iload_n 3, 1) := by decide +kernel
theorem dX3_whyNot_69 : decode cX3_whyNot 69 = .ok (.invokevirtual 103, 3) := by decide +kernel
theorem dX3_whyNot_72 : decode cX3_whyNot 72 = .ok (.ireturn, 1) := by decide +kernel
theorem dX3_whyNot_73 : decode cX3_whyNot 73 = .ok (.aload_n 0, 1) := by decide +kernel
theorem dX3_whyNot_74 : decode cX3_whyNot 74 = .ok (.iload_n 2, 1) := by decide +kernel
theorem dX3_whyNot_75 : decode cX3_whyNot 75 = .ok (.invokevirtual 106, 3) := by decide +kernel
theorem dX3_whyNot_78 : decode cX3_whyNot 78 = .ok (.ifCond .eq 7, 3) := by decide +kernel
theorem dX3_whyNot_81 : decode cX3_whyNot 81 = .ok (.iconst 1, 1) := by decide +kernel
theorem dX3_whyNot_82 : decode cX3_whyNot 82 = .ok (.goto 21, 3) := by decide +kernel
theorem dX3_whyNot_85 : decode cX3_whyNot 85 = .ok (.aload_n 0, 1) := by decide +kernel
theorem dX3_whyNot_86 : decode cX3_whyNot 86 = .ok (.getfield 24, 3) := by decide +kernel
theorem dX3_whyNot_89 : decode cX3_whyNot 89 = .ok (.iload_n 2, 1) := by decide +kernel
theorem dX3_whyNot_90 : decode cX3_whyNot 90 = .ok (.iaload, 1) := by decide +kernel
theorem dX3_whyNot_91 : decode cX3_whyNot 91 = .ok (.iload_n 3, 1) := by decide +kernel
theorem dX3_whyNot_92 : decode cX3_whyNot 92 = .ok (.iadd, 1) := by decide +kernel
theorem dX3_whyNot_93 : decode cX3_whyNot 93 = .ok (.bipush 9, 2) := by decide +kernel
theorem dX3_whyNot_95 : decode cX3_whyNot 95 = .ok (.if_icmp .le 7, 3) := by decide +kernel
theorem dX3_whyNot_98 : decode cX3_whyNot 98 = .ok (.iconst 2, 1) := by decide +kernel
theorem dX3_whyNot_99 : decode cX3_whyNot 99 = .ok (.goto 4, 3) := by decide +kernel
theorem dX3_whyNot_102 : decode cX3_whyNot 102 = .ok (.iconst 0, 1) := by decide +kernel
theorem dX3_whyNot_103 : decode cX3_whyNot 103 = .ok (.ireturn, 1) := by decide +kernel
theorem dX3_whyNot_104 : decode cX3_whyNot 104 = .ok (.aload_n 0, 1) := by decide +kernel
theorem dX3_whyNot_105 : decode cX3_whyNot 105 = .ok (.iload_n 2, 1) := by decide +kernel
theorem dX3_whyNot_106 : decode cX3_whyNot 106 = .ok (.invokevirtual 106, 3) := by decide +kernel
theorem dX3_whyNot_109 : decode cX3_whyNot 109 = .ok (.ifCond .eq 7, 3) := by decide +kernel
theorem dX3_whyNot_112 : decode cX3_whyNot 112 = .ok (.iconst 1, 1) := by decide +kernel
theorem dX3_whyNot_113 : decode cX3_whyNot 113 = .ok (.goto 18, 3) := by decide +kernel
theorem dX3_whyNot_116 : decode cX3_whyNot 116 = .ok (.aload_n 0, 1) := by decide +kernel
theorem dX3_whyNot_117 : decode cX3_whyNot 117 = .ok (.getfield 18, 3) := by decide +kernel
theorem dX3_whyNot_120 : decode cX3_whyNot 120 = .ok (.iload_n 2, 1) := by decide +kernel
theorem dX3_whyNot_121 : decode cX3_whyNot 121 = .ok (.iaload, 1) := by decide +kernel
theorem dX3_whyNot_122 : decode cX3_whyNot 122 = .ok (.iload_n 3, 1) := by decide +kernel
theorem dX3_whyNot_123 : decode cX3_whyNot 123 = .ok (.if_icmp .ge 7, 3) := by decide +kernel
theorem dX3_whyNot_126 : decode cX3_whyNot 126 = .ok (.iconst 2, 1) := by decide +kernel
theorem dX3_whyNot_127 : decode cX3_whyNot 127 = .ok (.goto 4, 3) := by decide +kernel
theorem dX3_whyNot_130 : decode cX3_whyNot 130 = .ok (.iconst 0, 1) := by decide +kernel
theorem dX3_whyNot_131 : decode cX3_whyNot 131 = .ok (.ireturn, 1) := by decide +kernel
theorem dX3_whyNot_132 : decode cX3_whyNot 132 = .ok (.iload_n 3, 1) := by decide +kernel
theorem dX3_whyNot_133 : decode cX3_whyNot 133 = .ok (.sipush 600, 3) := by decide +kernel
theorem dX3_whyNot_136 : decode cX3_whyNot 136 = .ok (.aload_n 0, 1) := by decide +kernel
theorem dX3_whyNot_137 : decode cX3_whyNot 137 = .ok (.getfield 37, 3) := by decide +kernel
theorem dX3_whyNot_140 : decode cX3_whyNot 140 = .ok (.isub, 1) := by decide +kernel
theorem dX3_whyNot_141 : decode cX3_whyNot 141 = .ok (.if_icmp .le 7, 3) := by decide +kernel
theorem dX3_whyNot_144 : decode cX3_whyNot 144 = .ok (.iconst 1, 1) := by decide +kernel
theorem dX3_whyNot_145 : decode cX3_whyNot 145 = .ok (.goto 4, 3) := by decide +kernel
theorem dX3_whyNot_148 : decode cX3_whyNot 148 = .ok (.iconst 0, 1) := by decide +kernel
theorem dX3_whyNot_149 : decode cX3_whyNot 149 = .ok (.ireturn, 1) := by decide +kernel
theorem dX3_isWedStill_0 : decode cX3_isWedStill 0 = .ok (.aload_n 0, 1) := by decide +kernel
theorem dX3_isWedStill_1 : decode cX3_isWedStill 1 = .ok (.getfield 33, 3) := by decide +kernel
theorem dX3_isWedStill_4 : decode cX3_isWedStill 4 = .ok (.iload_n 1, 1) := by decide +kernel
theorem dX3_isWedStill_5 : decode cX3_isWedStill 5 = .ok (.invokevirtual 109, 3) := by decide +kernel
theorem dX3_isWedStill_8 : decode cX3_isWedStill 8 = .ok (.istore_n 2, 1) := by decide +kernel
theorem dX3_isWedStill_9 : decode cX3_isWedStill 9 = .ok (.aload_n 0, 1) := by decide +kernel
theorem dX3_isWedStill_10 : decode cX3_isWedStill 10 = .ok (.getfield 33, 3) := by decide +kernel
theorem dX3_isWedStill_13 : decode cX3_isWedStill 13 = .ok (.iload_n 2, 1) := by decide +kernel
theorem dX3_isWedStill_14 : decode cX3_isWedStill 14 = .ok (.invokevirtual 112, 3) := by decide +kernel
theorem dX3_isWedStill_17 : decode cX3_isWedStill 17 = .ok (.ifCond .eq 15, 3) := by decide +kernel
theorem dX3_isWedStill_20 : decode cX3_isWedStill 20 = .ok (.aload_n 0, 1) := by decide +kernel
theorem dX3_isWedStill_21 : decode cX3_isWedStill 21 = .ok (.iload_n 2, 1) := by decide +kernel
theorem dX3_isWedStill_22 : decode cX3_isWedStill 22 = .ok (.invokevirtual 106, 3) := by decide +kernel
theorem dX3_isWedStill_25 : decode cX3_isWedStill 25 = .ok (.ifCond .ne 7, 3) := by decide +kernel
theorem dX3_isWedStill_28 : decode cX3_isWedStill 28 = .ok (.iconst 1, 1) := by decide +kernel
theorem dX3_isWedStill_29 : decode cX3_isWedStill 29 = .ok (.goto 4, 3) := by decide +kernel
theorem dX3_isWedStill_32 : decode cX3_isWedStill 32 = .ok (.iconst 0, 1) := by decide +kernel
theorem dX3_isWedStill_33 : decode cX3_isWedStill 33 = .ok (.ireturn, 1) := by decide +kernel
theorem dX3_whyNotTurn_0 : decode cX3_whyNotTurn 0 = .ok (.aload_n 0, 1) := by decide +kernel
theorem dX3_whyNotTurn_1 : decode cX3_whyNotTurn 1 = .ok (.iload_n 1, 1) := by decide +kernel
theorem dX3_whyNotTurn_2 : decode cX3_whyNotTurn 2 = .ok (.invokevirtual 115, 3) := by decide +kernel
theorem dX3_whyNotTurn_5 : decode cX3_whyNotTurn 5 = .ok (.ifCond .ne 5, 3) := by decide +kernel
theorem dX3_whyNotTurn_8 : decode cX3_whyNotTurn 8 = .ok (.iconst 1, 1) := by decide +kernel
theorem dX3_whyNotTurn_9 : decode cX3_whyNotTurn 9 = .ok (.ireturn, 1) := by decide +kernel
theorem dX3_whyNotTurn_10 : decode cX3_whyNotTurn 10 = .ok (.aload_n 0, 1) := by decide +kernel
theorem dX3_whyNotTurn_11 : decode cX3_whyNotTurn 11 = .ok (.iload_n 1, 1) := by decide +kernel
theorem dX3_whyNotTurn_12 : decode cX3_whyNotTurn 12 = .ok (.invokevirtual 81, 3) := by decide +kernel
theorem dX3_whyNotTurn_15 : decode cX3_whyNotTurn 15 = .ok (.ifCond .ne 5, 3) := by decide +kernel
theorem dX3_whyNotTurn_18 : decode cX3_whyNotTurn 18 = .ok (.iconst 2, 1) := by decide +kernel
theorem dX3_whyNotTurn_19 : decode cX3_whyNotTurn 19 = .ok (.ireturn, 1) := by decide +kernel
theorem dX3_whyNotTurn_20 : decode cX3_whyNotTurn 20 = .ok (.aload_n 0, 1) := by decide +kernel
theorem dX3_whyNotTurn_21 : decode cX3_whyNotTurn 21 = .ok (.getfield 33, 3) := by decide +kernel
theorem dX3_whyNotTurn_24 : decode cX3_whyNotTurn 24 = .ok (.iload_n 1, 1) := by decide +kernel
theorem dX3_whyNotTurn_25 : decode cX3_whyNotTurn 25 = .ok (.invokevirtual 109, 3) := by decide +kernel
theorem dX3_whyNotTurn_28 : decode cX3_whyNotTurn 28 = .ok (.istore_n 2, 1) := by decide +kernel
theorem dX3_whyNotTurn_29 : decode cX3_whyNotTurn 29 = .ok (.aload_n 0, 1) := by decide +kernel
theorem dX3_whyNotTurn_30 : decode cX3_whyNotTurn 30 = .ok (.getfield 18, 3) := by decide +kernel
theorem dX3_whyNotTurn_33 : decode cX3_whyNotTurn 33 = .ok (.iload_n 2, 1) := by decide +kernel
theorem dX3_whyNotTurn_34 : decode cX3_whyNotTurn 34 = .ok (.iaload, 1) := by decide +kernel
theorem dX3_whyNotTurn_35 : decode cX3_whyNotTurn 35 = .ok (.ifCond .le 15, 3) := by decide +kernel
theorem dX3_whyNotTurn_38 : decode cX3_whyNotTurn 38 = .ok (.aload_n 0, 1) := by decide +kernel
theorem dX3_whyNotTurn_39 : decode cX3_whyNotTurn 39 = .ok (.getfield 33, 3) := by decide +kernel
theorem dX3_whyNotTurn_42 : decode cX3_whyNotTurn 42 = .ok (.getfield 118, 3) := by decide +kernel
theorem dX3_whyNotTurn_45 : decode cX3_whyNotTurn 45 = .ok (.ifCond .ne 5, 3) := by decide +kernel
theorem dX3_whyNotTurn_48 : decode cX3_whyNotTurn 48 = .ok (.iconst 3, 1) := by decide +kernel
theorem dX3_whyNotTurn_49 : decode cX3_whyNotTurn 49 = .ok (.ireturn, 1) := by decide +kernel
theorem dX3_whyNotTurn_50 : decode cX3_whyNotTurn 50 = .ok (.aload_n 0, 1) := by decide +kernel
theorem dX3_whyNotTurn_51 : decode cX3_whyNotTurn 51 = .ok (.getfield 18, 3) := by decide +kernel
theorem dX3_whyNotTurn_54 : decode cX3_whyNotTurn 54 = .ok (.iload_n 2, 1) := by decide +kernel
theorem dX3_whyNotTurn_55 : decode cX3_whyNotTurn 55 = .ok (.iaload, 1) := by decide +kernel
theorem dX3_whyNotTurn_56 : decode cX3_whyNotTurn 56 = .ok (.aload_n 0, 1) := by decide +kernel
theorem dX3_whyNotTurn_57 : decode cX3_whyNotTurn 57 = .ok (.getfield 33, 3) := by decide +kernel
theorem dX3_whyNotTurn_60 : decode cX3_whyNotTurn 60 = .ok (.getfield 58, 3) := by decide +kernel
theorem dX3_whyNotTurn_63 : decode cX3_whyNotTurn 63 = .ok (.iload_n 2, 1) := by decide +kernel
theorem dX3_whyNotTurn_64 : decode cX3_whyNotTurn 64 = .ok (.iaload, 1) := by decide +kernel
theorem dX3_whyNotTurn_65 : decode cX3_whyNotTurn 65 = .ok (.if_icmp .ne 7, 3) := by decide +kernel
theorem dX3_whyNotTurn_68 : decode cX3_whyNotTurn 68 = .ok (.iconst 4, 1) := by decide +kernel
theorem dX3_whyNotTurn_69 : decode cX3_whyNotTurn 69 = .ok (.goto 4, 3) := by decide +kernel
theorem dX3_whyNotTurn_72 : decode cX3_whyNotTurn 72 = .ok (.iconst 0, 1) := by decide +kernel
theorem dX3_whyNotTurn_73 : decode cX3_whyNotTurn 73 = .ok (.ireturn, 1) := by decide +kernel
theorem dX3_whyNotWoo_0 : decode cX3_whyNotWoo 0 = .ok (.aload_n 0, 1) := by decide +kernel
theorem dX3_whyNotWoo_1 : decode cX3_whyNotWoo 1 = .ok (.iload_n 1, 1) := by decide +kernel
theorem dX3_whyNotWoo_2 : decode cX3_whyNotWoo 2 = .ok (.invokevirtual 115, 3) := by decide +kernel
theorem dX3_whyNotWoo_5 : decode cX3_whyNotWoo 5 = .ok (.ifCond .ne 5, 3) := by decide +kernel
theorem dX3_whyNotWoo_8 : decode cX3_whyNotWoo 8 = .ok (.iconst 1, 1) := by decide +kernel
theorem dX3_whyNotWoo_9 : decode cX3_whyNotWoo 9 = .ok (.ireturn, 1) := by decide +kernel
theorem dX3_whyNotWoo_10 : decode cX3_whyNotWoo 10 = .ok (.aload_n 0, 1) := by decide +kernel
theorem dX3_whyNotWoo_11 : decode cX3_whyNotWoo 11 = .ok (.iload_n 1, 1) := by decide +kernel
theorem dX3_whyNotWoo_12 : decode cX3_whyNotWoo 12 = .ok (.invokevirtual 81, 3) := by decide +kernel
theorem dX3_whyNotWoo_15 : decode cX3_whyNotWoo 15 = .ok (.ifCond .eq 7, 3) := by decide +kernel
theorem dX3_whyNotWoo_18 : decode cX3_whyNotWoo 18 = .ok (.iconst 0, 1) := by decide +kernel
theorem dX3_whyNotWoo_19 : decode cX3_whyNotWoo 19 = .ok (.goto 4, 3) := by decide +kernel
theorem dX3_whyNotWoo_22 : decode cX3_whyNotWoo 22 = .ok (.iconst 2, 1) := by decide +kernel
theorem dX3_whyNotWoo_23 : decode cX3_whyNotWoo 23 = .ok (.ireturn, 1) := by decide +kernel
theorem dX3_whyNotTilt_0 : decode cX3_whyNotTilt 0 = .ok (.aload_n 0, 1) := by decide +kernel
theorem dX3_whyNotTilt_1 : decode cX3_whyNotTilt 1 = .ok (.iload_n 1, 1) := by decide +kernel
theorem dX3_whyNotTilt_2 : decode cX3_whyNotTilt 2 = .ok (.invokevirtual 106, 3) := by decide +kernel
theorem dX3_whyNotTilt_5 : decode cX3_whyNotTilt 5 = .ok (.ifCond .eq 5, 3) := by decide +kernel
theorem dX3_whyNotTilt_8 : decode cX3_whyNotTilt 8 = .ok (.iconst 1, 1) := by decide +kernel
theorem dX3_whyNotTilt_9 : decode cX3_whyNotTilt 9 = .ok (.ireturn, 1) := by decide +kernel
theorem dX3_whyNotTilt_10 : decode cX3_whyNotTilt 10 = .ok (.aload_n 0, 1) := by decide +kernel
theorem dX3_whyNotTilt_11 : decode cX3_whyNotTilt 11 = .ok (.getfield 21, 3) := by decide +kernel
theorem dX3_whyNotTilt_14 : decode cX3_whyNotTilt 14 = .ok (.iload_n 1, 1) := by decide +kernel
theorem dX3_whyNotTilt_15 : decode cX3_whyNotTilt 15 = .ok (.iaload, 1) := by decide +kernel
theorem dX3_whyNotTilt_16 : decode cX3_whyNotTilt 16 = .ok (.iload_n 2, 1) := by decide +kernel
theorem dX3_whyNotTilt_17 : decode cX3_whyNotTilt 17 = .ok (.if_icmp .ne 5, 3) := by decide +kernel
theorem dX3_whyNotTilt_20 : decode cX3_whyNotTilt 20 = .ok (.iconst 2, 1) := by decide +kernel
theorem dX3_whyNotTilt_21 : decode cX3_whyNotTilt 21 = .ok (.ireturn, 1) := by decide +kernel
theorem dX3_whyNotTilt_22 : decode cX3_whyNotTilt 22 = .ok (.iload_n 2, 1) := by decide +kernel
theorem dX3_whyNotTilt_23 : decode cX3_whyNotTilt 23 = .ok (.iconst 2, 1) := by decide +kernel
theorem dX3_whyNotTilt_24 : decode cX3_whyNotTilt 24 = .ok (.if_icmp .ne 17, 3) := by decide +kernel
theorem dX3_whyNotTilt_27 : decode cX3_whyNotTilt 27 = .ok (.aload_n 0, 1) := by decide +kernel
theorem dX3_whyNotTilt_28 : decode cX3_whyNotTilt 28 = .ok (.getfield 33, 3) := by decide +kernel
theorem dX3_whyNotTilt_31 : decode cX3_whyNotTilt 31 = .ok (.getfield 122, 3) := by decide +kernel
theorem dX3_whyNotTilt_34 : decode cX3_whyNotTilt 34 = .ok (.ifCond .ne 7, 3) := by decide +kernel
theorem dX3_whyNotTilt_37 : decode cX3_whyNotTilt 37 = .ok (.iconst 3, 1) := by decide +kernel
theorem dX3_whyNotTilt_38 : decode cX3_whyNotTilt 38 = .ok (.goto 4, 3) := by decide +kernel
theorem dX3_whyNotTilt_41 : decode cX3_whyNotTilt 41 = .ok (.iconst 0, 1) := by decide +kernel
theorem dX3_whyNotTilt_42 : decode cX3_whyNotTilt 42 = .ok (.ireturn, 1) := by decide +kernel
theorem dX3_carryOut_0 : decode cX3_carryOut 0 = .ok (.iload_n 1, 1) := by decide +kernel
theorem dX3_carryOut_1 : decode cX3_carryOut 1 = .ok (.tableswitch 122 0 5 #[39, 55, 70, 86, 96, 109], 39) := by decide +kernel
theorem dX3_carryOut_40 : decode cX3_carryOut 40 = .ok (.aload_n 0, 1) := by decide +kernel
theorem dX3_carryOut_41 : decode cX3_carryOut 41 = .ok (.aload_n 0, 1) := by decide +kernel
theorem dX3_carryOut_42 : decode cX3_carryOut 42 = .ok (.getfield 33, 3) := by decide +kernel
theorem dX3_carryOut_45 : decode cX3_carryOut 45 = .ok (.iload_n 2, 1) := by decide +kernel
theorem dX3_carryOut_46 : decode cX3_carryOut 46 = .ok (.invokevirtual 109, 3) := by decide +kernel
theorem dX3_carryOut_49 : decode cX3_carryOut 49 = .ok (.iload_n 2, 1) := by decide +kernel
theorem dX3_carryOut_50 : decode cX3_carryOut 50 = .ok (.invokevirtual 125, 3) := by decide +kernel
theorem dX3_carryOut_53 : decode cX3_carryOut 53 = .ok (.goto 70, 3) := by decide +kernel
theorem dX3_carryOut_56 : decode cX3_carryOut 56 = .ok (.aload_n 0, 1) := by decide +kernel
theorem dX3_carryOut_57 : decode cX3_carryOut 57 = .ok (.dup, 1) := by decide +kernel
theorem dX3_carryOut_58 : decode cX3_carryOut 58 = .ok (.getfield 44, 3) := by decide +kernel
theorem dX3_carryOut_61 : decode cX3_carryOut 61 = .ok (.iconst 1, 1) := by decide +kernel
theorem dX3_carryOut_62 : decode cX3_carryOut 62 = .ok (.iload_n 2, 1) := by decide +kernel
theorem dX3_carryOut_63 : decode cX3_carryOut 63 = .ok (.ishl, 1) := by decide +kernel
theorem dX3_carryOut_64 : decode cX3_carryOut 64 = .ok (.ior, 1) := by decide +kernel
theorem dX3_carryOut_65 : decode cX3_carryOut 65 = .ok (.putfield 44, 3) := by decide +kernel
theorem dX3_carryOut_68 : decode cX3_carryOut 68 = .ok (.goto 55, 3) := by decide +kernel
theorem dX3_carryOut_71 : decode cX3_carryOut 71 = .ok (.aload_n 0, 1) := by decide +kernel
theorem dX3_carryOut_72 : decode cX3_carryOut 72 = .ok (.aload_n 0, 1) := by decide +kernel
theorem dX3_carryOut_73 : decode cX3_carryOut 73 = .ok (.getfield 33, 3) := by decide +kernel
theorem dX3_carryOut_76 : decode cX3_carryOut 76 = .ok (.iload_n 2, 1) := by decide +kernel
theorem dX3_carryOut_77 : decode cX3_carryOut 77 = .ok (.invokevirtual 129, 3) := by decide +kernel
theorem dX3_carryOut_80 : decode cX3_carryOut 80 = .ok (.iload_n 3, 1) := by decide +kernel
theorem dX3_carryOut_81 : decode cX3_carryOut 81 = .ok (.invokevirtual 132, 3) := by decide +kernel
theorem dX3_carryOut_84 : decode cX3_carryOut 84 = .ok (.goto 39, 3) := by decide +kernel
theorem dX3_carryOut_87 : decode cX3_carryOut 87 = .ok (.aload_n 0, 1) := by decide +kernel
theorem dX3_carryOut_88 : decode cX3_carryOut 88 = .ok (.getfield 21, 3) := by decide +kernel
theorem dX3_carryOut_91 : decode cX3_carryOut 91 = .ok (.iload_n 2, 1) := by decide +kernel
theorem dX3_carryOut_92 : decode cX3_carryOut 92 = .ok (.iload_n 3, 1) := by decide +kernel
theorem dX3_carryOut_93 : decode cX3_carryOut 93 = .ok (.iastore, 1) := by decide +kernel
theorem dX3_carryOut_94 : decode cX3_carryOut 94 = .ok (.goto 29, 3) := by decide +kernel
theorem dX3_carryOut_97 : decode cX3_carryOut 97 = .ok (.aload_n 0, 1) := by decide +kernel
theorem dX3_carryOut_98 : decode cX3_carryOut 98 = .ok (.getfield 24, 3) := by decide +kernel
theorem dX3_carryOut_101 : decode cX3_carryOut 101 = .ok (.iload_n 2, 1) := by decide +kernel
theorem dX3_carryOut_102 : decode cX3_carryOut 102 = .ok (.dup2, 1) := by decide +kernel
theorem dX3_carryOut_103 : decode cX3_carryOut 103 = .ok (.iaload, 1) := by decide +kernel
theorem dX3_carryOut_104 : decode cX3_carryOut 104 = .ok (.iload_n 3, 1) := by decide +kernel
theorem dX3_carryOut_105 : decode cX3_carryOut 105 = .ok (.iadd, 1) := by decide +kernel
theorem dX3_carryOut_106 : decode cX3_carryOut 106 = .ok (.iastore, 1) := by decide +kernel
theorem dX3_carryOut_107 : decode cX3_carryOut 107 = .ok (.goto 16, 3) := by decide +kernel
theorem dX3_carryOut_110 : decode cX3_carryOut 110 = .ok (.aload_n 0, 1) := by decide +kernel
theorem dX3_carryOut_111 : decode cX3_carryOut 111 = .ok (.getfield 18, 3) := by decide +kernel
theorem dX3_carryOut_114 : decode cX3_carryOut 114 = .ok (.iload_n 2, 1) := by decide +kernel
theorem dX3_carryOut_115 : decode cX3_carryOut 115 = .ok (.dup2, 1) := by decide +kernel
theorem dX3_carryOut_116 : decode cX3_carryOut 116 = .ok (.iaload, 1) := by decide +kernel
theorem dX3_carryOut_117 : decode cX3_carryOut 117 = .ok (.iload_n 3, 1) := by decide +kernel
theorem dX3_carryOut_118 : decode cX3_carryOut 118 = .ok (.isub, 1) := by decide +kernel
theorem dX3_carryOut_119 : decode cX3_carryOut 119 = .ok (.iastore, 1) := by decide +kernel
theorem dX3_carryOut_120 : decode cX3_carryOut 120 = .ok (.goto 3, 3) := by decide +kernel
theorem dX3_carryOut_123 : decode cX3_carryOut 123 = .ok (.return_, 1) := by decide +kernel
theorem dX3_turnOver_0 : decode cX3_turnOver 0 = .ok (.aload_n 0, 1) := by decide +kernel
theorem dX3_turnOver_1 : decode cX3_turnOver 1 = .ok (.getfield 33, 3) := by decide +kernel
theorem dX3_turnOver_4 : decode cX3_turnOver 4 = .ok (.iload_n 1, 1) := by decide +kernel
theorem dX3_turnOver_5 : decode cX3_turnOver 5 = .ok (.invokevirtual 112, 3) := by decide +kernel
theorem dX3_turnOver_8 : decode cX3_turnOver 8 = .ok (.ifCond .ne 4, 3) := by decide +kernel
theorem dX3_turnOver_11 : decode cX3_turnOver 11 = .ok (.return_, 1) := by decide +kernel
theorem dX3_turnOver_12 : decode cX3_turnOver 12 = .ok (.aload_n 0, 1) := by decide +kernel
theorem dX3_turnOver_13 : decode cX3_turnOver 13 = .ok (.getfield 18, 3) := by decide +kernel
theorem dX3_turnOver_16 : decode cX3_turnOver 16 = .ok (.iload_n 1, 1) := by decide +kernel
theorem dX3_turnOver_17 : decode cX3_turnOver 17 = .ok (.aload_n 0, 1) := by decide +kernel
theorem dX3_turnOver_18 : decode cX3_turnOver 18 = .ok (.getfield 33, 3) := by decide +kernel
theorem dX3_turnOver_21 : decode cX3_turnOver 21 = .ok (.getfield 58, 3) := by decide +kernel
theorem dX3_turnOver_24 : decode cX3_turnOver 24 = .ok (.iload_n 1, 1) := by decide +kernel
theorem dX3_turnOver_25 : decode cX3_turnOver 25 = .ok (.iaload, 1) := by decide +kernel
theorem dX3_turnOver_26 : decode cX3_turnOver 26 = .ok (.aload_n 0, 1) := by decide +kernel
theorem dX3_turnOver_27 : decode cX3_turnOver 27 = .ok (.getfield 18, 3) := by decide +kernel
theorem dX3_turnOver_30 : decode cX3_turnOver 30 = .ok (.iload_n 1, 1) := by decide +kernel
theorem dX3_turnOver_31 : decode cX3_turnOver 31 = .ok (.iaload, 1) := by decide +kernel
theorem dX3_turnOver_32 : decode cX3_turnOver 32 = .ok (.isub, 1) := by decide +kernel
theorem dX3_turnOver_33 : decode cX3_turnOver 33 = .ok (.iastore, 1) := by decide +kernel
theorem dX3_turnOver_34 : decode cX3_turnOver 34 = .ok (.aload_n 0, 1) := by decide +kernel
theorem dX3_turnOver_35 : decode cX3_turnOver 35 = .ok (.getfield 27, 3) := by decide +kernel
theorem dX3_turnOver_38 : decode cX3_turnOver 38 = .ok (.iload_n 1, 1) := by decide +kernel
theorem dX3_turnOver_39 : decode cX3_turnOver 39 = .ok (.iconst 0, 1) := by decide +kernel
theorem dX3_turnOver_40 : decode cX3_turnOver 40 = .ok (.iastore, 1) := by decide +kernel
theorem dX3_turnOver_41 : decode cX3_turnOver 41 = .ok (.aload_n 0, 1) := by decide +kernel
theorem dX3_turnOver_42 : decode cX3_turnOver 42 = .ok (.getfield 15, 3) := by decide +kernel
theorem dX3_turnOver_45 : decode cX3_turnOver 45 = .ok (.iload_n 2, 1) := by decide +kernel
theorem dX3_turnOver_46 : decode cX3_turnOver 46 = .ok (.dup2, 1) := by decide +kernel
theorem dX3_turnOver_47 : decode cX3_turnOver 47 = .ok (.iaload, 1) := by decide +kernel
theorem dX3_turnOver_48 : decode cX3_turnOver 48 = .ok (.iconst 1, 1) := by decide +kernel
theorem dX3_turnOver_49 : decode cX3_turnOver 49 = .ok (.iadd, 1) := by decide +kernel
theorem dX3_turnOver_50 : decode cX3_turnOver 50 = .ok (.iastore, 1) := by decide +kernel
theorem dX3_turnOver_51 : decode cX3_turnOver 51 = .ok (.aload_n 0, 1) := by decide +kernel
theorem dX3_turnOver_52 : decode cX3_turnOver 52 = .ok (.getfield 30, 3) := by decide +kernel
theorem dX3_turnOver_55 : decode cX3_turnOver 55 = .ok (.iload_n 1, 1) := by decide +kernel
theorem dX3_turnOver_56 : decode cX3_turnOver 56 = .ok (.dup2, 1) := by decide +kernel
theorem dX3_turnOver_57 : decode cX3_turnOver 57 = .ok (.iaload, 1) := by decide +kernel
theorem dX3_turnOver_58 : decode cX3_turnOver 58 = .ok (.iconst 1, 1) := by decide +kernel
theorem dX3_turnOver_59 : decode cX3_turnOver 59 = .ok (.iadd, 1) := by decide +kernel
theorem dX3_turnOver_60 : decode cX3_turnOver 60 = .ok (.iastore, 1) := by decide +kernel
theorem dX3_turnOver_61 : decode cX3_turnOver 61 = .ok (.return_, 1) := by decide +kernel
theorem dX3_endear_0 : decode cX3_endear 0 = .ok (.aload_n 0, 1) := by decide +kernel
theorem dX3_endear_1 : decode cX3_endear 1 = .ok (.getfield 33, 3) := by decide +kernel
theorem dX3_endear_4 : decode cX3_endear 4 = .ok (.iload_n 1, 1) := by decide +kernel
theorem dX3_endear_5 : decode cX3_endear 5 = .ok (.invokevirtual 135, 3) := by decide +kernel
theorem dX3_endear_8 : decode cX3_endear 8 = .ok (.ifCond .eq 22, 3) := by decide +kernel
theorem dX3_endear_11 : decode cX3_endear 11 = .ok (.aload_n 0, 1) := by decide +kernel
theorem dX3_endear_12 : decode cX3_endear 12 = .ok (.getfield 9, 3) := by decide +kernel
theorem dX3_endear_15 : decode cX3_endear 15 = .ok (.iload_n 1, 1) := by decide +kernel
theorem dX3_endear_16 : decode cX3_endear 16 = .ok (.bipush 99, 2) := by decide +kernel
theorem dX3_endear_18 : decode cX3_endear 18 = .ok (.aload_n 0, 1) := by decide +kernel
theorem dX3_endear_19 : decode cX3_endear 19 = .ok (.getfield 9, 3) := by decide +kernel
theorem dX3_endear_22 : decode cX3_endear 22 = .ok (.iload_n 1, 1) := by decide +kernel
theorem dX3_endear_23 : decode cX3_endear 23 = .ok (.iaload, 1) := by decide +kernel
theorem dX3_endear_24 : decode cX3_endear 24 = .ok (.iload_n 2, 1) := by decide +kernel
theorem dX3_endear_25 : decode cX3_endear 25 = .ok (.iadd, 1) := by decide +kernel
theorem dX3_endear_26 : decode cX3_endear 26 = .ok (.invokestatic 84, 3) := by decide +kernel
theorem dX3_endear_29 : decode cX3_endear 29 = .ok (.iastore, 1) := by decide +kernel
theorem dX3_endear_30 : decode cX3_endear 30 = .ok (.return_, 1) := by decide +kernel
theorem dX3_passHours_0 : decode cX3_passHours 0 = .ok (.iconst 0, 1) := by decide +kernel
theorem dX3_passHours_1 : decode cX3_passHours 1 = .ok (.istore_n 2, 1) := by decide +kernel
theorem dX3_passHours_2 : decode cX3_passHours 2 = .ok (.iload_n 2, 1) := by decide +kernel
theorem dX3_passHours_3 : decode cX3_passHours 3 = .ok (.iload_n 1, 1) := by decide +kernel
theorem dX3_passHours_4 : decode cX3_passHours 4 = .ok (.if_icmp .ge 13, 3) := by decide +kernel
theorem dX3_passHours_7 : decode cX3_passHours 7 = .ok (.aload_n 0, 1) := by decide +kernel
theorem dX3_passHours_8 : decode cX3_passHours 8 = .ok (.invokevirtual 138, 3) := by decide +kernel
theorem dX3_passHours_11 : decode cX3_passHours 11 = .ok (.iinc 2 1, 3) := by decide +kernel
theorem dX3_passHours_14 : decode cX3_passHours 14 = .ok (.goto (-12), 3) := by decide +kernel
theorem dX3_passHours_17 : decode cX3_passHours 17 = .ok (.return_, 1) := by decide +kernel
theorem dX3_passHour_0 : decode cX3_passHour 0 = .ok (.iconst 0, 1) := by decide +kernel
theorem dX3_passHour_1 : decode cX3_passHour 1 = .ok (.istore_n 1, 1) := by decide +kernel
theorem dX3_passHour_2 : decode cX3_passHour 2 = .ok (.iload_n 1, 1) := by decide +kernel
theorem dX3_passHour_3 : decode cX3_passHour 3 = .ok (.aload_n 0, 1) := by decide +kernel
theorem dX3_passHour_4 : decode cX3_passHour 4 = .ok (.getfield 33, 3) := by decide +kernel
theorem dX3_passHour_7 : decode cX3_passHour 7 = .ok (.getfield 55, 3) := by decide +kernel
theorem dX3_passHour_10 : decode cX3_passHour 10 = .ok (.if_icmp .ge 22, 3) := by decide +kernel
theorem dX3_passHour_13 : decode cX3_passHour 13 = .ok (.aload_n 0, 1) := by decide +kernel
theorem dX3_passHour_14 : decode cX3_passHour 14 = .ok (.iload_n 1, 1) := by decide +kernel
theorem dX3_passHour_15 : decode cX3_passHour 15 = .ok (.invokevirtual 106, 3) := by decide +kernel
theorem dX3_passHour_18 : decode cX3_passHour 18 = .ok (.ifCond .ne 8, 3) := by decide +kernel
theorem dX3_passHour_21 : decode cX3_passHour 21 = .ok (.aload_n 0, 1) := by decide +kernel
theorem dX3_passHour_22 : decode cX3_passHour 22 = .ok (.iload_n 1, 1) := by decide +kernel
theorem dX3_passHour_23 : decode cX3_passHour 23 = .ok (.invokevirtual 141, 3) := by decide +kernel
theorem dX3_passHour_26 : decode cX3_passHour 26 = .ok (.iinc 1 1, 3) := by decide +kernel
theorem dX3_passHour_29 : decode cX3_passHour 29 = .ok (.goto (-27), 3) := by decide +kernel
theorem dX3_passHour_32 : decode cX3_passHour 32 = .ok (.aload_n 0, 1) := by decide +kernel
theorem dX3_passHour_33 : decode cX3_passHour 33 = .ok (.iconst 0, 1) := by decide +kernel
theorem dX3_passHour_34 : decode cX3_passHour 34 = .ok (.putfield 44, 3) := by decide +kernel
theorem dX3_passHour_37 : decode cX3_passHour 37 = .ok (.aload_n 0, 1) := by decide +kernel
theorem dX3_passHour_38 : decode cX3_passHour 38 = .ok (.getfield 37, 3) := by decide +kernel
theorem dX3_passHour_41 : decode cX3_passHour 41 = .ok (.bipush 24, 2) := by decide +kernel
theorem dX3_passHour_43 : decode cX3_passHour 43 = .ok (.irem, 1) := by decide +kernel
theorem dX3_passHour_44 : decode cX3_passHour 44 = .ok (.bipush 23, 2) := by decide +kernel
theorem dX3_passHour_46 : decode cX3_passHour 46 = .ok (.if_icmp .ne 42, 3) := by decide +kernel
theorem dX3_passHour_49 : decode cX3_passHour 49 = .ok (.iconst 0, 1) := by decide +kernel
theorem dX3_passHour_50 : decode cX3_passHour 50 = .ok (.istore_n 1, 1) := by decide +kernel
theorem dX3_passHour_51 : decode cX3_passHour 51 = .ok (.iload_n 1, 1) := by decide +kernel
theorem dX3_passHour_52 : decode cX3_passHour 52 = .ok (.aload_n 0, 1) := by decide +kernel
theorem dX3_passHour_53 : decode cX3_passHour 53 = .ok (.getfield 33, 3) := by decide +kernel
theorem dX3_passHour_56 : decode cX3_passHour 56 = .ok (.getfield 47, 3) := by decide +kernel
theorem dX3_passHour_59 : decode cX3_passHour 59 = .ok (.if_icmp .ge 29, 3) := by decide +kernel
theorem dX3_passHour_62 : decode cX3_passHour 62 = .ok (.aload_n 0, 1) := by decide +kernel
theorem dX3_passHour_63 : decode cX3_passHour 63 = .ok (.getfield 9, 3) := by decide +kernel
theorem dX3_passHour_66 : decode cX3_passHour 66 = .ok (.iload_n 1, 1) := by decide +kernel
theorem dX3_passHour_67 : decode cX3_passHour 67 = .ok (.aload_n 0, 1) := by decide +kernel
theorem dX3_passHour_68 : decode cX3_passHour 68 = .ok (.getfield 33, 3) := by decide +kernel
theorem dX3_passHour_71 : decode cX3_passHour 71 = .ok (.iload_n 1, 1) := by decide +kernel
theorem dX3_passHour_72 : decode cX3_passHour 72 = .ok (.aload_n 0, 1) := by decide +kernel
theorem dX3_passHour_73 : decode cX3_passHour 73 = .ok (.getfield 9, 3) := by decide +kernel
theorem dX3_passHour_76 : decode cX3_passHour 76 = .ok (.iload_n 1, 1) := by decide +kernel
theorem dX3_passHour_77 : decode cX3_passHour 77 = .ok (.iaload, 1) := by decide +kernel
theorem dX3_passHour_78 : decode cX3_passHour 78 = .ok (.invokevirtual 145, 3) := by decide +kernel
theorem dX3_passHour_81 : decode cX3_passHour 81 = .ok (.iastore, 1) := by decide +kernel
theorem dX3_passHour_82 : decode cX3_passHour 82 = .ok (.iinc 1 1, 3) := by decide +kernel
theorem dX3_passHour_85 : decode cX3_passHour 85 = .ok (.goto (-34), 3) := by decide +kernel
theorem dX3_passHour_88 : decode cX3_passHour 88 = .ok (.aload_n 0, 1) := by decide +kernel
theorem dX3_passHour_89 : decode cX3_passHour 89 = .ok (.dup, 1) := by decide +kernel
theorem dX3_passHour_90 : decode cX3_passHour 90 = .ok (.getfield 37, 3) := by decide +kernel
theorem dX3_passHour_93 : decode cX3_passHour 93 = .ok (.iconst 1, 1) := by decide +kernel
theorem dX3_passHour_94 : decode cX3_passHour 94 = .ok (.iadd, 1) := by decide +kernel
theorem dX3_passHour_95 : decode cX3_passHour 95 = .ok (.putfield 37, 3) := by decide +kernel
theorem dX3_passHour_98 : decode cX3_passHour 98 = .ok (.return_, 1) := by decide +kernel
theorem dX3_passHourOf_0 : decode cX3_passHourOf 0 = .ok (.aload_n 0, 1) := by decide +kernel
theorem dX3_passHourOf_1 : decode cX3_passHourOf 1 = .ok (.getfield 18, 3) := by decide +kernel
theorem dX3_passHourOf_4 : decode cX3_passHourOf 4 = .ok (.iload_n 1, 1) := by decide +kernel
theorem dX3_passHourOf_5 : decode cX3_passHourOf 5 = .ok (.iaload, 1) := by decide +kernel
theorem dX3_passHourOf_6 : decode cX3_passHourOf 6 = .ok (.ifCond .le 32, 3) := by decide +kernel
theorem dX3_passHourOf_9 : decode cX3_passHourOf 9 = .ok (.aload_n 0, 1) := by decide +kernel
theorem dX3_passHourOf_10 : decode cX3_passHourOf 10 = .ok (.getfield 18, 3) := by decide +kernel
theorem dX3_passHourOf_13 : decode cX3_passHourOf 13 = .ok (.iload_n 1, 1) := by decide +kernel
theorem dX3_passHourOf_14 : decode cX3_passHourOf 14 = .ok (.iconst 0, 1) := by decide +kernel
theorem dX3_passHourOf_15 : decode cX3_passHourOf 15 = .ok (.aload_n 0, 1) := by decide +kernel
theorem dX3_passHourOf_16 : decode cX3_passHourOf 16 = .ok (.getfield 18, 3) := by decide +kernel
theorem dX3_passHourOf_19 : decode cX3_passHourOf 19 = .ok (.iload_n 1, 1) := by decide +kernel
theorem dX3_passHourOf_20 : decode cX3_passHourOf 20 = .ok (.iaload, 1) := by decide +kernel
theorem dX3_passHourOf_21 : decode cX3_passHourOf 21 = .ok (.aload_n 0, 1) := by decide +kernel
theorem dX3_passHourOf_22 : decode cX3_passHourOf 22 = .ok (.iload_n 1, 1) := by decide +kernel
theorem dX3_passHourOf_23 : decode cX3_passHourOf 23 = .ok (.aload_n 0, 1) := by decide +kernel
theorem dX3_passHourOf_24 : decode cX3_passHourOf 24 = .ok (.getfield 37, 3) := by decide +kernel
theorem dX3_passHourOf_27 : decode cX3_passHourOf 27 = .ok (.invokevirtual 148, 3) := by decide +kernel
theorem dX3_passHourOf_30 : decode cX3_passHourOf 30 = .ok (.isub, 1) := by decide +kernel
theorem dX3_passHourOf_31 : decode cX3_passHourOf 31 = .ok (.invokestatic 90, 3) := by decide +kernel
theorem dX3_passHourOf_34 : decode cX3_passHourOf 34 = .ok (.iastore, 1) := by decide +kernel
theorem dX3_passHourOf_35 : decode cX3_passHourOf 35 = .ok (.goto 107, 3) := by decide +kernel
theorem dX3_passHourOf_38 : decode cX3_passHourOf 38 = .ok (.aload_n 0, 1) := by decide +kernel
theorem dX3_passHourOf_39 : decode cX3_passHourOf 39 = .ok (.aload_n 0, 1) := by decide +kernel
theorem dX3_passHourOf_40 : decode cX3_passHourOf 40 = .ok (.getfield 33, 3) := by decide +kernel
theorem dX3_passHourOf_43 : decode cX3_passHourOf 43 = .ok (.getfield 151, 3) := by decide +kernel
theorem dX3_passHourOf_46 : decode cX3_passHourOf 46 = .ok (.iload_n 1, 1) := by decide +kernel
theorem dX3_passHourOf_47 : decode cX3_passHourOf 47 = .ok (.iaload, 1) := by decide +kernel
theorem dX3_passHourOf_48 : decode cX3_passHourOf 48 = .ok (.invokevirtual 154, 3) := by decide +kernel
theorem dX3_passHourOf_51 : decode cX3_passHourOf 51 = .ok (.ifCond .eq 20, 3) := by decide +kernel
theorem dX3_passHourOf_54 : decode cX3_passHourOf 54 = .ok (.aload_n 0, 1) := by decide +kernel
theorem dX3_passHourOf_55 : decode cX3_passHourOf 55 = .ok (.iload_n 1, 1) := by decide +kernel
theorem dX3_passHourOf_56 : decode cX3_passHourOf 56 = .ok (.aload_n 0, 1) := by decide +kernel
theorem dX3_passHourOf_57 : decode cX3_passHourOf 57 = .ok (.getfield 33, 3) := by decide +kernel
theorem dX3_passHourOf_60 : decode cX3_passHourOf 60 = .ok (.getfield 151, 3) := by decide +kernel
theorem dX3_passHourOf_63 : decode cX3_passHourOf 63 = .ok (.iload_n 1, 1) := by decide +kernel
theorem dX3_passHourOf_64 : decode cX3_passHourOf 64 = .ok (.iaload, 1) := by decide +kernel
theorem dX3_passHourOf_65 : decode cX3_passHourOf 65 = .ok (.invokevirtual 125, 3) := by decide +kernel
theorem dX3_passHourOf_68 : decode cX3_passHourOf 68 = .ok (.goto 74, 3) := by decide +kernel
theorem dX3_passHourOf_71 : decode cX3_passHourOf 71 = .ok (.aload_n 0, 1) := by decide +kernel
theorem dX3_passHourOf_72 : decode cX3_passHourOf 72 = .ok (.aload_n 0, 1) := by decide +kernel
theorem dX3_passHourOf_73 : decode cX3_passHourOf 73 = .ok (.getfield 33, 3) := by decide +kernel
theorem dX3_passHourOf_76 : decode cX3_passHourOf 76 = .ok (.getfield 157, 3) := by decide +kernel
theorem dX3_passHourOf_79 : decode cX3_passHourOf 79 = .ok (.iload_n 1, 1) := by decide +kernel
theorem dX3_passHourOf_80 : decode cX3_passHourOf 80 = .ok (.iaload, 1) := by decide +kernel
theorem dX3_passHourOf_81 : decode cX3_passHourOf 81 = .ok (.invokevirtual 154, 3) := by decide +kernel
theorem dX3_passHourOf_84 : decode cX3_passHourOf 84 = .ok (.ifCond .eq 20, 3) := by decide +kernel
theorem dX3_passHourOf_87 : decode cX3_passHourOf 87 = .ok (.aload_n 0, 1) := by decide +kernel
theorem dX3_passHourOf_88 : decode cX3_passHourOf 88 = .ok (.iload_n 1, 1) := by decide +kernel
theorem dX3_passHourOf_89 : decode cX3_passHourOf 89 = .ok (.aload_n 0, 1) := by decide +kernel
theorem dX3_passHourOf_90 : decode cX3_passHourOf 90 = .ok (.getfield 33, 3) := by decide +kernel
theorem dX3_passHourOf_93 : decode cX3_passHourOf 93 = .ok (.getfield 157, 3) := by decide +kernel
theorem dX3_passHourOf_96 : decode cX3_passHourOf 96 = .ok (.iload_n 1, 1) := by decide +kernel
theorem dX3_passHourOf_97 : decode cX3_passHourOf 97 = .ok (.iaload, 1) := by decide +kernel
theorem dX3_passHourOf_98 : decode cX3_passHourOf 98 = .ok (.invokevirtual 125, 3) := by decide +kernel
theorem dX3_passHourOf_101 : decode cX3_passHourOf 101 = .ok (.goto 41, 3) := by decide +kernel
theorem dX3_passHourOf_104 : decode cX3_passHourOf 104 = .ok (.aload_n 0, 1) := by decide +kernel
theorem dX3_passHourOf_105 : decode cX3_passHourOf 105 = .ok (.getfield 27, 3) := by decide +kernel
theorem dX3_passHourOf_108 : decode cX3_passHourOf 108 = .ok (.iload_n 1, 1) := by decide +kernel
theorem dX3_passHourOf_109 : decode cX3_passHourOf 109 = .ok (.dup2, 1) := by decide +kernel
theorem dX3_passHourOf_110 : decode cX3_passHourOf 110 = .ok (.iaload, 1) := by decide +kernel
theorem dX3_passHourOf_111 : decode cX3_passHourOf 111 = .ok (.iconst 1, 1) := by decide +kernel
theorem dX3_passHourOf_112 : decode cX3_passHourOf 112 = .ok (.iadd, 1) := by decide +kernel
theorem dX3_passHourOf_113 : decode cX3_passHourOf 113 = .ok (.iastore, 1) := by decide +kernel
theorem dX3_passHourOf_114 : decode cX3_passHourOf 114 = .ok (.aload_n 0, 1) := by decide +kernel
theorem dX3_passHourOf_115 : decode cX3_passHourOf 115 = .ok (.getfield 27, 3) := by decide +kernel
theorem dX3_passHourOf_118 : decode cX3_passHourOf 118 = .ok (.iload_n 1, 1) := by decide +kernel
theorem dX3_passHourOf_119 : decode cX3_passHourOf 119 = .ok (.iaload, 1) := by decide +kernel
theorem dX3_passHourOf_120 : decode cX3_passHourOf 120 = .ok (.aload_n 0, 1) := by decide +kernel
theorem dX3_passHourOf_121 : decode cX3_passHourOf 121 = .ok (.getfield 33, 3) := by decide +kernel
theorem dX3_passHourOf_124 : decode cX3_passHourOf 124 = .ok (.getfield 160, 3) := by decide +kernel
theorem dX3_passHourOf_127 : decode cX3_passHourOf 127 = .ok (.if_icmp .lt 15, 3) := by decide +kernel
theorem dX3_passHourOf_130 : decode cX3_passHourOf 130 = .ok (.aload_n 0, 1) := by decide +kernel
theorem dX3_passHourOf_131 : decode cX3_passHourOf 131 = .ok (.dup, 1) := by decide +kernel
theorem dX3_passHourOf_132 : decode cX3_passHourOf 132 = .ok (.getfield 41, 3) := by decide +kernel
theorem dX3_passHourOf_135 : decode cX3_passHourOf 135 = .ok (.iconst 1, 1) := by decide +kernel
theorem dX3_passHourOf_136 : decode cX3_passHourOf 136 = .ok (.iload_n 1, 1) := by decide +kernel
theorem dX3_passHourOf_137 : decode cX3_passHourOf 137 = .ok (.ishl, 1) := by decide +kernel
theorem dX3_passHourOf_138 : decode cX3_passHourOf 138 = .ok (.ior, 1) := by decide +kernel
theorem dX3_passHourOf_139 : decode cX3_passHourOf 139 = .ok (.putfield 41, 3) := by decide +kernel
theorem dX3_passHourOf_142 : decode cX3_passHourOf 142 = .ok (.return_, 1) := by decide +kernel
theorem dX3_drawHours_0 : decode cX3_drawHours 0 = .ok (.iload_n 2, 1) := by decide +kernel
theorem dX3_drawHours_1 : decode cX3_drawHours 1 = .ok (.istore_n 3, 1) := by decide +kernel
theorem dX3_drawHours_2 : decode cX3_drawHours 2 = .ok (.iconst 0, 1) := by decide +kernel
theorem dX3_drawHours_3 : decode cX3_drawHours 3 = .ok (.istore 4, 2) := by decide +kernel
theorem dX3_drawHours_5 : decode cX3_drawHours 5 = .ok (.iload 4, 2) := by decide +kernel
theorem dX3_drawHours_7 : decode cX3_drawHours 7 = .ok (.iload_n 1, 1) := by decide +kernel
theorem dX3_drawHours_8 : decode cX3_drawHours 8 = .ok (.if_icmp .ge 71, 3) := by decide +kernel
theorem dX3_drawHours_11 : decode cX3_drawHours 11 = .ok (.iconst 0, 1) := by decide +kernel
theorem dX3_drawHours_12 : decode cX3_drawHours 12 = .ok (.istore 5, 2) := by decide +kernel
theorem dX3_drawHours_14 : decode cX3_drawHours 14 = .ok (.iload 5, 2) := by decide +kernel
theorem dX3_drawHours_16 : decode cX3_drawHours 16 = .ok (.aload_n 0, 1) := by decide +kernel
theorem dX3_drawHours_17 : decode cX3_drawHours 17 = .ok (.getfield 33, 3) := by decide +kernel
theorem dX3_drawHours_20 : decode cX3_drawHours 20 = .ok (.getfield 47, 3) := by decide +kernel
theorem dX3_drawHours_23 : decode cX3_drawHours 23 = .ok (.if_icmp .ge 17, 3) := by decide +kernel
theorem dX3_drawHours_26 : decode cX3_drawHours 26 = .ok (.aload_n 0, 1) := by decide +kernel
theorem dX3_drawHours_27 : decode cX3_drawHours 27 = .ok (.iload 5, 2) := by decide +kernel
theorem dX3_drawHours_29 : decode cX3_drawHours 29 = .ok (.iload_n 3, 1) := by decide +kernel
theorem dX3_drawHours_30 : decode cX3_drawHours 30 = .ok (.invokevirtual 163, 3) := by decide +kernel
theorem dX3_drawHours_33 : decode cX3_drawHours 33 = .ok (.istore_n 3, 1) := by decide +kernel
theorem dX3_drawHours_34 : decode cX3_drawHours 34 = .ok (.iinc 5 1, 3) := by decide +kernel
theorem dX3_drawHours_37 : decode cX3_drawHours 37 = .ok (.goto (-23), 3) := by decide +kernel
theorem dX3_drawHours_40 : decode cX3_drawHours 40 = .ok (.iconst 0, 1) := by decide +kernel
theorem dX3_drawHours_41 : decode cX3_drawHours 41 = .ok (.istore 5, 2) := by decide +kernel
theorem dX3_drawHours_43 : decode cX3_drawHours 43 = .ok (.iload 5, 2) := by decide +kernel
theorem dX3_drawHours_45 : decode cX3_drawHours 45 = .ok (.aload_n 0, 1) := by decide +kernel
theorem dX3_drawHours_46 : decode cX3_drawHours 46 = .ok (.getfield 33, 3) := by decide +kernel
theorem dX3_drawHours_49 : decode cX3_drawHours 49 = .ok (.getfield 55, 3) := by decide +kernel
theorem dX3_drawHours_52 : decode cX3_drawHours 52 = .ok (.if_icmp .ge 17, 3) := by decide +kernel
theorem dX3_drawHours_55 : decode cX3_drawHours 55 = .ok (.aload_n 0, 1) := by decide +kernel
theorem dX3_drawHours_56 : decode cX3_drawHours 56 = .ok (.iload 5, 2) := by decide +kernel
theorem dX3_drawHours_58 : decode cX3_drawHours 58 = .ok (.iload_n 3, 1) := by decide +kernel
theorem dX3_drawHours_59 : decode cX3_drawHours 59 = .ok (.invokevirtual 166, 3) := by decide +kernel
theorem dX3_drawHours_62 : decode cX3_drawHours 62 = .ok (.istore_n 3, 1) := by decide +kernel
theorem dX3_drawHours_63 : decode cX3_drawHours 63 = .ok (.iinc 5 1, 3) := by decide +kernel
theorem dX3_drawHours_66 : decode cX3_drawHours 66 = .ok (.goto (-23), 3) := by decide +kernel
theorem dX3_drawHours_69 : decode cX3_drawHours 69 = .ok (.aload_n 0, 1) := by decide +kernel
theorem dX3_drawHours_70 : decode cX3_drawHours 70 = .ok (.invokevirtual 138, 3) := by decide +kernel
theorem dX3_drawHours_73 : decode cX3_drawHours 73 = .ok (.iinc 4 1, 3) := by decide +kernel
theorem dX3_drawHours_76 : decode cX3_drawHours 76 = .ok (.goto (-71), 3) := by decide +kernel
theorem dX3_drawHours_79 : decode cX3_drawHours 79 = .ok (.return_, 1) := by decide +kernel
theorem dX3_drawForPerson_0 : decode cX3_drawForPerson 0 = .ok (.iload_n 2, 1) := by decide +kernel
theorem dX3_drawForPerson_1 : decode cX3_drawForPerson 1 = .ok (.invokestatic 169, 3) := by decide +kernel
theorem dX3_drawForPerson_4 : decode cX3_drawForPerson 4 = .ok (.istore_n 3, 1) := by decide +kernel
theorem dX3_drawForPerson_5 : decode cX3_drawForPerson 5 = .ok (.iload_n 3, 1) := by decide +kernel
theorem dX3_drawForPerson_6 : decode cX3_drawForPerson 6 = .ok (.bipush 8, 2) := by decide +kernel
theorem dX3_drawForPerson_8 : decode cX3_drawForPerson 8 = .ok (.iushr, 1) := by decide +kernel
theorem dX3_drawForPerson_9 : decode cX3_drawForPerson 9 = .ok (.bipush 12, 2) := by decide +kernel
theorem dX3_drawForPerson_11 : decode cX3_drawForPerson 11 = .ok (.irem, 1) := by decide +kernel
theorem dX3_drawForPerson_12 : decode cX3_drawForPerson 12 = .ok (.tableswitch 71 0 2 #[28, 51, 61], 28) := by decide +kernel
theorem dX3_drawForPerson_40 : decode cX3_drawForPerson 40 = .ok (.iload_n 3, 1) := by decide +kernel
theorem dX3_drawForPerson_41 : decode cX3_drawForPerson 41 = .ok (.invokestatic 169, 3) := by decide +kernel
theorem dX3_drawForPerson_44 : decode cX3_drawForPerson 44 = .ok (.istore_n 3, 1) := by decide +kernel
theorem dX3_drawForPerson_45 : decode cX3_drawForPerson 45 = .ok (.aload_n 0, 1) := by decide +kernel
theorem dX3_drawForPerson_46 : decode cX3_drawForPerson 46 = .ok (.iconst 2, 1) := by decide +kernel
theorem dX3_drawForPerson_47 : decode cX3_drawForPerson 47 = .ok (.iload_n 1, 1) := by decide +kernel
theorem dX3_drawForPerson_48 : decode cX3_drawForPerson 48 = .ok (.iload_n 3, 1) := by decide +kernel
theorem dX3_drawForPerson_49 : decode cX3_drawForPerson 49 = .ok (.bipush 8, 2) := by decide +kernel
theorem dX3_drawForPerson_51 : decode cX3_drawForPerson 51 = .ok (.iushr, 1) := by decide +kernel
theorem dX3_drawForPerson_52 : decode cX3_drawForPerson 52 = .ok (.bipush 10, 2) := by decide +kernel
theorem dX3_drawForPerson_54 : decode cX3_drawForPerson 54 = .ok (.irem, 1) := by decide +kernel
theorem dX3_drawForPerson_55 : decode cX3_drawForPerson 55 = .ok (.iconst 1, 1) := by decide +kernel
theorem dX3_drawForPerson_56 : decode cX3_drawForPerson 56 = .ok (.iadd, 1) := by decide +kernel
theorem dX3_drawForPerson_57 : decode cX3_drawForPerson 57 = .ok (.invokevirtual 172, 3) := by decide +kernel
theorem dX3_drawForPerson_60 : decode cX3_drawForPerson 60 = .ok (.goto 23, 3) := by decide +kernel
theorem dX3_drawForPerson_63 : decode cX3_drawForPerson 63 = .ok (.aload_n 0, 1) := by decide +kernel
theorem dX3_drawForPerson_64 : decode cX3_drawForPerson 64 = .ok (.iconst 0, 1) := by decide +kernel
theorem dX3_drawForPerson_65 : decode cX3_drawForPerson 65 = .ok (.iload_n 1, 1) := by decide +kernel
theorem dX3_drawForPerson_66 : decode cX3_drawForPerson 66 = .ok (.iconst 0, 1) := by decide +kernel
theorem dX3_drawForPerson_67 : decode cX3_drawForPerson 67 = .ok (.invokevirtual 172, 3) := by decide +kernel
theorem dX3_drawForPerson_70 : decode cX3_drawForPerson 70 = .ok (.goto 13, 3) := by decide +kernel
theorem dX3_drawForPerson_73 : decode cX3_drawForPerson 73 = .ok (.aload_n 0, 1) := by decide +kernel
theorem dX3_drawForPerson_74 : decode cX3_drawForPerson 74 = .ok (.iconst 1, 1) := by decide +kernel
theorem dX3_drawForPerson_75 : decode cX3_drawForPerson 75 = .ok (.iload_n 1, 1) := by decide +kernel
theorem dX3_drawForPerson_76 : decode cX3_drawForPerson 76 = .ok (.iconst 0, 1) := by decide +kernel
theorem dX3_drawForPerson_77 : decode cX3_drawForPerson 77 = .ok (.invokevirtual 172, 3) := by decide +kernel
theorem dX3_drawForPerson_80 : decode cX3_drawForPerson 80 = .ok (.goto 3, 3) := by decide +kernel
theorem dX3_drawForPerson_83 : decode cX3_drawForPerson 83 = .ok (.iload_n 3, 1) := by decide +kernel
theorem dX3_drawForPerson_84 : decode cX3_drawForPerson 84 = .ok (.ireturn, 1) := by decide +kernel
theorem dX3_drawForGlass_0 : decode cX3_drawForGlass 0 = .ok (.iload_n 2, 1) := by decide +kernel
theorem dX3_drawForGlass_1 : decode cX3_drawForGlass 1 = .ok (.invokestatic 169, 3) := by decide +kernel
theorem dX3_drawForGlass_4 : decode cX3_drawForGlass 4 = .ok (.istore_n 3, 1) := by decide +kernel
theorem dX3_drawForGlass_5 : decode cX3_drawForGlass 5 = .ok (.iload_n 3, 1) := by decide +kernel
theorem dX3_drawForGlass_6 : decode cX3_drawForGlass 6 = .ok (.bipush 8, 2) := by decide +kernel
theorem dX3_drawForGlass_8 : decode cX3_drawForGlass 8 = .ok (.iushr, 1) := by decide +kernel
theorem dX3_drawForGlass_9 : decode cX3_drawForGlass 9 = .ok (.bipush 30, 2) := by decide +kernel
theorem dX3_drawForGlass_11 : decode cX3_drawForGlass 11 = .ok (.irem, 1) := by decide +kernel
theorem dX3_drawForGlass_12 : decode cX3_drawForGlass 12 = .ok (.ifCond .ne 23, 3) := by decide +kernel
theorem dX3_drawForGlass_15 : decode cX3_drawForGlass 15 = .ok (.iload_n 3, 1) := by decide +kernel
theorem dX3_drawForGlass_16 : decode cX3_drawForGlass 16 = .ok (.invokestatic 169, 3) := by decide +kernel
theorem dX3_drawForGlass_19 : decode cX3_drawForGlass 19 = .ok (.istore_n 3, 1) := by decide +kernel
theorem dX3_drawForGlass_20 : decode cX3_drawForGlass 20 = .ok (.aload_n 0, 1) := by decide +kernel
theorem dX3_drawForGlass_21 : decode cX3_drawForGlass 21 = .ok (.iconst 5, 1) := by decide +kernel
theorem dX3_drawForGlass_22 : decode cX3_drawForGlass 22 = .ok (.iload_n 1, 1) := by decide +kernel
theorem dX3_drawForGlass_23 : decode cX3_drawForGlass 23 = .ok (.iload_n 3, 1) := by decide +kernel
theorem dX3_drawForGlass_24 : decode cX3_drawForGlass 24 = .ok (.bipush 8, 2) := by decide +kernel
theorem dX3_drawForGlass_26 : decode cX3_drawForGlass 26 = .ok (.iushr, 1) := by decide +kernel
theorem dX3_drawForGlass_27 : decode cX3_drawForGlass 27 = .ok (.bipush 20, 2) := by decide +kernel
theorem dX3_drawForGlass_29 : decode cX3_drawForGlass 29 = .ok (.irem, 1) := by decide +kernel
theorem dX3_drawForGlass_30 : decode cX3_drawForGlass 30 = .ok (.iconst 1, 1) := by decide +kernel
theorem dX3_drawForGlass_31 : decode cX3_drawForGlass 31 = .ok (.iadd, 1) := by decide +kernel
theorem dX3_drawForGlass_32 : decode cX3_drawForGlass 32 = .ok (.invokevirtual 172, 3) := by decide +kernel
theorem dX3_drawForGlass_35 : decode cX3_drawForGlass 35 = .ok (.iload_n 3, 1) := by decide +kernel
theorem dX3_drawForGlass_36 : decode cX3_drawForGlass 36 = .ok (.ireturn, 1) := by decide +kernel
theorem dX3_nextSeed_0 : decode cX3_nextSeed 0 = .ok (.iload_n 0, 1) := by decide +kernel
theorem dX3_nextSeed_1 : decode cX3_nextSeed 1 = .ok (.ldc 176, 2) := by decide +kernel
theorem dX3_nextSeed_3 : decode cX3_nextSeed 3 = .ok (.imul, 1) := by decide +kernel
theorem dX3_nextSeed_4 : decode cX3_nextSeed 4 = .ok (.sipush 12345, 3) := by decide +kernel
theorem dX3_nextSeed_7 : decode cX3_nextSeed 7 = .ok (.iadd, 1) := by decide +kernel
theorem dX3_nextSeed_8 : decode cX3_nextSeed 8 = .ok (.ireturn, 1) := by decide +kernel
theorem dX3_doIfCan_0 : decode cX3_doIfCan 0 = .ok (.aload_n 0, 1) := by decide +kernel
theorem dX3_doIfCan_1 : decode cX3_doIfCan 1 = .ok (.iload_n 1, 1) := by decide +kernel
theorem dX3_doIfCan_2 : decode cX3_doIfCan 2 = .ok (.iload_n 2, 1) := by decide +kernel
theorem dX3_doIfCan_3 : decode cX3_doIfCan 3 = .ok (.iload_n 3, 1) := by decide +kernel
theorem dX3_doIfCan_4 : decode cX3_doIfCan 4 = .ok (.invokevirtual 177, 3) := by decide +kernel
theorem dX3_doIfCan_7 : decode cX3_doIfCan 7 = .ok (.ifCond .ne 10, 3) := by decide +kernel
theorem dX3_doIfCan_10 : decode cX3_doIfCan 10 = .ok (.aload_n 0, 1) := by decide +kernel
theorem dX3_doIfCan_11 : decode cX3_doIfCan 11 = .ok (.iload_n 1, 1) := by decide +kernel
theorem dX3_doIfCan_12 : decode cX3_doIfCan 12 = .ok (.iload_n 2, 1) := by decide +kernel
theorem dX3_doIfCan_13 : decode cX3_doIfCan 13 = .ok (.iload_n 3, 1) := by decide +kernel
theorem dX3_doIfCan_14 : decode cX3_doIfCan 14 = .ok (.invokevirtual 181, 3) := by decide +kernel
theorem dX3_doIfCan_17 : decode cX3_doIfCan 17 = .ok (.return_, 1) := by decide +kernel
theorem dX4_init_0 : decode cX4_init 0 = .ok (.aload_n 0, 1) := by decide +kernel
theorem dX4_init_1 : decode cX4_init 1 = .ok (.invokespecial 3, 3) := by decide +kernel
theorem dX4_init_4 : decode cX4_init 4 = .ok (.aload_n 0, 1) := by decide +kernel
theorem dX4_init_5 : decode cX4_init 5 = .ok (.bipush 8, 2) := by decide +kernel
theorem dX4_init_7 : decode cX4_init 7 = .ok (.newarray .long, 2) := by decide +kernel
theorem dX4_init_9 : decode cX4_init 9 = .ok (.putfield 9, 3) := by decide +kernel
theorem dX4_init_12 : decode cX4_init 12 = .ok (.aload_n 0, 1) := by decide +kernel
theorem dX4_init_13 : decode cX4_init 13 = .ok (.bipush 8, 2) := by decide +kernel
theorem dX4_init_15 : decode cX4_init 15 = .ok (.newarray .int, 2) := by decide +kernel
theorem dX4_init_17 : decode cX4_init 17 = .ok (.putfield 15, 3) := by decide +kernel
theorem dX4_init_20 : decode cX4_init 20 = .ok (.aload_n 0, 1) := by decide +kernel
theorem dX4_init_21 : decode cX4_init 21 = .ok (.bipush 8, 2) := by decide +kernel
theorem dX4_init_23 : decode cX4_init 23 = .ok (.newarray .int, 2) := by decide +kernel
theorem dX4_init_25 : decode cX4_init 25 = .ok (.putfield 19, 3) := by decide +kernel
theorem dX4_init_28 : decode cX4_init 28 = .ok (.aload_n 0, 1) := by decide +kernel
theorem dX4_init_29 : decode cX4_init 29 = .ok (.bipush 8, 2) := by decide +kernel
theorem dX4_init_31 : decode cX4_init 31 = .ok (.newarray .int, 2) := by decide +kernel
theorem dX4_init_33 : decode cX4_init 33 = .ok (.putfield 22, 3) := by decide +kernel
theorem dX4_init_36 : decode cX4_init 36 = .ok (.aload_n 0, 1) := by decide +kernel
theorem dX4_init_37 : decode cX4_init 37 = .ok (.bipush 8, 2) := by decide +kernel
theorem dX4_init_39 : decode cX4_init 39 = .ok (.newarray .int, 2) := by decide +kernel
theorem dX4_init_41 : decode cX4_init 41 = .ok (.putfield 25, 3) := by decide +kernel
theorem dX4_init_44 : decode cX4_init 44 = .ok (.aload_n 0, 1) := by decide +kernel
theorem dX4_init_45 : decode cX4_init 45 = .ok (.bipush 8, 2) := by decide +kernel
theorem dX4_init_47 : decode cX4_init 47 = .ok (.newarray .int, 2) := by decide +kernel
theorem dX4_init_49 : decode cX4_init 49 = .ok (.putfield 28, 3) := by decide +kernel
theorem dX4_init_52 : decode cX4_init 52 = .ok (.aload_n 0, 1) := by decide +kernel
theorem dX4_init_53 : decode cX4_init 53 = .ok (.iconst 4, 1) := by decide +kernel
theorem dX4_init_54 : decode cX4_init 54 = .ok (.newarray .long, 2) := by decide +kernel
theorem dX4_init_56 : decode cX4_init 56 = .ok (.putfield 31, 3) := by decide +kernel
theorem dX4_init_59 : decode cX4_init 59 = .ok (.aload_n 0, 1) := by decide +kernel
theorem dX4_init_60 : decode cX4_init 60 = .ok (.iconst 4, 1) := by decide +kernel
theorem dX4_init_61 : decode cX4_init 61 = .ok (.newarray .int, 2) := by decide +kernel
theorem dX4_init_63 : decode cX4_init 63 = .ok (.putfield 34, 3) := by decide +kernel
theorem dX4_init_66 : decode cX4_init 66 = .ok (.aload_n 0, 1) := by decide +kernel
theorem dX4_init_67 : decode cX4_init 67 = .ok (.iconst 4, 1) := by decide +kernel
theorem dX4_init_68 : decode cX4_init 68 = .ok (.newarray .int, 2) := by decide +kernel
theorem dX4_init_70 : decode cX4_init 70 = .ok (.putfield 37, 3) := by decide +kernel
theorem dX4_init_73 : decode cX4_init 73 = .ok (.aload_n 0, 1) := by decide +kernel
theorem dX4_init_74 : decode cX4_init 74 = .ok (.iconst 4, 1) := by decide +kernel
theorem dX4_init_75 : decode cX4_init 75 = .ok (.newarray .int, 2) := by decide +kernel
theorem dX4_init_77 : decode cX4_init 77 = .ok (.putfield 40, 3) := by decide +kernel
theorem dX4_init_80 : decode cX4_init 80 = .ok (.aload_n 0, 1) := by decide +kernel
theorem dX4_init_81 : decode cX4_init 81 = .ok (.iconst 4, 1) := by decide +kernel
theorem dX4_init_82 : decode cX4_init 82 = .ok (.newarray .int, 2) := by decide +kernel
theorem dX4_init_84 : decode cX4_init 84 = .ok (.putfield 43, 3) := by decide +kernel
theorem dX4_init_87 : decode cX4_init 87 = .ok (.aload_n 0, 1) := by decide +kernel
theorem dX4_init_88 : decode cX4_init 88 = .ok (.bipush 12, 2) := by decide +kernel
theorem dX4_init_90 : decode cX4_init 90 = .ok (.newarray .int, 2) := by decide +kernel
theorem dX4_init_92 : decode cX4_init 92 = .ok (.putfield 46, 3) := by decide +kernel
theorem dX4_init_95 : decode cX4_init 95 = .ok (.aload_n 0, 1) := by decide +kernel
theorem dX4_init_96 : decode cX4_init 96 = .ok (.new 49, 3) := by decide +kernel
theorem dX4_init_99 : decode cX4_init 99 = .ok (.dup, 1) := by decide +kernel
theorem dX4_init_100 : decode cX4_init 100 = .ok (.invokespecial 51, 3) := by decide +kernel
theorem dX4_init_103 : decode cX4_init 103 = .ok (.putfield 52, 3) := by decide +kernel
theorem dX4_init_106 : decode cX4_init 106 = .ok (.aload_n 0, 1) := by decide +kernel
theorem dX4_init_107 : decode cX4_init 107 = .ok (.iconst 2, 1) := by decide +kernel
theorem dX4_init_108 : decode cX4_init 108 = .ok (.putfield 56, 3) := by decide +kernel
theorem dX4_init_111 : decode cX4_init 111 = .ok (.aload_n 0, 1) := by decide +kernel
theorem dX4_init_112 : decode cX4_init 112 = .ok (.bipush 50, 2) := by decide +kernel
theorem dX4_init_114 : decode cX4_init 114 = .ok (.putfield 60, 3) := by decide +kernel
theorem dX4_init_117 : decode cX4_init 117 = .ok (.return_, 1) := by decide +kernel
theorem dX4_forget_0 : decode cX4_forget 0 = .ok (.aload_n 0, 1) := by decide +kernel
theorem dX4_forget_1 : decode cX4_forget 1 = .ok (.iconst 0, 1) := by decide +kernel
theorem dX4_forget_2 : decode cX4_forget 2 = .ok (.putfield 63, 3) := by decide +kernel
theorem dX4_forget_5 : decode cX4_forget 5 = .ok (.aload_n 0, 1) := by decide +kernel
theorem dX4_forget_6 : decode cX4_forget 6 = .ok (.iconst 0, 1) := by decide +kernel
theorem dX4_forget_7 : decode cX4_forget 7 = .ok (.putfield 66, 3) := by decide +kernel
theorem dX4_forget_10 : decode cX4_forget 10 = .ok (.aload_n 0, 1) := by decide +kernel
theorem dX4_forget_11 : decode cX4_forget 11 = .ok (.iconst 0, 1) := by decide +kernel
theorem dX4_forget_12 : decode cX4_forget 12 = .ok (.putfield 69, 3) := by decide +kernel
theorem dX4_forget_15 : decode cX4_forget 15 = .ok (.aload_n 0, 1) := by decide +kernel
theorem dX4_forget_16 : decode cX4_forget 16 = .ok (.getfield 52, 3) := by decide +kernel
theorem dX4_forget_19 : decode cX4_forget 19 = .ok (.iconst 0, 1) := by decide +kernel
theorem dX4_forget_20 : decode cX4_forget 20 = .ok (.putfield 72, 3) := by decide +kernel
theorem dX4_forget_23 : decode cX4_forget 23 = .ok (.aload_n 0, 1) := by decide +kernel
theorem dX4_forget_24 : decode cX4_forget 24 = .ok (.iconst 2, 1) := by decide +kernel
theorem dX4_forget_25 : decode cX4_forget 25 = .ok (.putfield 56, 3) := by decide +kernel
theorem dX4_forget_28 : decode cX4_forget 28 = .ok (.aload_n 0, 1) := by decide +kernel
theorem dX4_forget_29 : decode cX4_forget 29 = .ok (.bipush 50, 2) := by decide +kernel
theorem dX4_forget_31 : decode cX4_forget 31 = .ok (.putfield 60, 3) := by decide +kernel
theorem dX4_forget_34 : decode cX4_forget 34 = .ok (.aload_n 0, 1) := by decide +kernel
theorem dX4_forget_35 : decode cX4_forget 35 = .ok (.iconst 0, 1) := by decide +kernel
theorem dX4_forget_36 : decode cX4_forget 36 = .ok (.putfield 75, 3) := by decide +kernel
theorem dX4_forget_39 : decode cX4_forget 39 = .ok (.aload_n 0, 1) := by decide +kernel
theorem dX4_forget_40 : decode cX4_forget 40 = .ok (.iconst 0, 1) := by decide +kernel
theorem dX4_forget_41 : decode cX4_forget 41 = .ok (.putfield 79, 3) := by decide +kernel
theorem dX4_forget_44 : decode cX4_forget 44 = .ok (.return_, 1) := by decide +kernel
theorem dX4_copyFrom_0 : decode cX4_copyFrom 0 = .ok (.aload_n 1, 1) := by decide +kernel
theorem dX4_copyFrom_1 : decode cX4_copyFrom 1 = .ok (.getfield 9, 3) := by decide +kernel
theorem dX4_copyFrom_4 : decode cX4_copyFrom 4 = .ok (.iconst 0, 1) := by decide +kernel
theorem dX4_copyFrom_5 : decode cX4_copyFrom 5 = .ok (.aload_n 0, 1) := by decide +kernel
theorem dX4_copyFrom_6 : decode cX4_copyFrom 6 = .ok (.getfield 9, 3) := by decide +kernel
theorem dX4_copyFrom_9 : decode cX4_copyFrom 9 = .ok (.iconst 0, 1) := by decide +kernel
theorem dX4_copyFrom_10 : decode cX4_copyFrom 10 = .ok (.bipush 8, 2) := by decide +kernel
theorem dX4_copyFrom_12 : decode cX4_copyFrom 12 = .ok (.invokestatic 82, 3) := by decide +kernel
theorem dX4_copyFrom_15 : decode cX4_copyFrom 15 = .ok (.aload_n 1, 1) := by decide +kernel
theorem dX4_copyFrom_16 : decode cX4_copyFrom 16 = .ok (.getfield 15, 3) := by decide +kernel
theorem dX4_copyFrom_19 : decode cX4_copyFrom 19 = .ok (.iconst 0, 1) := by decide +kernel
theorem dX4_copyFrom_20 : decode cX4_copyFrom 20 = .ok (.aload_n 0, 1) := by decide +kernel
theorem dX4_copyFrom_21 : decode cX4_copyFrom 21 = .ok (.getfield 15, 3) := by decide +kernel
theorem dX4_copyFrom_24 : decode cX4_copyFrom 24 = .ok (.iconst 0, 1) := by decide +kernel
theorem dX4_copyFrom_25 : decode cX4_copyFrom 25 = .ok (.bipush 8, 2) := by decide +kernel
theorem dX4_copyFrom_27 : decode cX4_copyFrom 27 = .ok (.invokestatic 82, 3) := by decide +kernel
theorem dX4_copyFrom_30 : decode cX4_copyFrom 30 = .ok (.aload_n 1, 1) := by decide +kernel
theorem dX4_copyFrom_31 : decode cX4_copyFrom 31 = .ok (.getfield 19, 3) := by decide +kernel
theorem dX4_copyFrom_34 : decode cX4_copyFrom 34 = .ok (.iconst 0, 1) := by decide +kernel
theorem dX4_copyFrom_35 : decode cX4_copyFrom 35 = .ok (.aload_n 0, 1) := by decide +kernel
theorem dX4_copyFrom_36 : decode cX4_copyFrom 36 = .ok (.getfield 19, 3) := by decide +kernel
theorem dX4_copyFrom_39 : decode cX4_copyFrom 39 = .ok (.iconst 0, 1) := by decide +kernel
theorem dX4_copyFrom_40 : decode cX4_copyFrom 40 = .ok (.bipush 8, 2) := by decide +kernel
theorem dX4_copyFrom_42 : decode cX4_copyFrom 42 = .ok (.invokestatic 82, 3) := by decide +kernel
theorem dX4_copyFrom_45 : decode cX4_copyFrom 45 = .ok (.aload_n 1, 1) := by decide +kernel
theorem dX4_copyFrom_46 : decode cX4_copyFrom 46 = .ok (.getfield 22, 3) := by decide +kernel
theorem dX4_copyFrom_49 : decode cX4_copyFrom 49 = .ok (.iconst 0, 1) := by decide +kernel
theorem dX4_copyFrom_50 : decode cX4_copyFrom 50 = .ok (.aload_n 0, 1) := by decide +kernel
theorem dX4_copyFrom_51 : decode cX4_copyFrom 51 = .ok (.getfield 22, 3) := by decide +kernel
theorem dX4_copyFrom_54 : decode cX4_copyFrom 54 = .ok (.iconst 0, 1) := by decide +kernel
theorem dX4_copyFrom_55 : decode cX4_copyFrom 55 = .ok (.bipush 8, 2) := by decide +kernel
theorem dX4_copyFrom_57 : decode cX4_copyFrom 57 = .ok (.invokestatic 82, 3) := by decide +kernel
theorem dX4_copyFrom_60 : decode cX4_copyFrom 60 = .ok (.aload_n 1, 1) := by decide +kernel
theorem dX4_copyFrom_61 : decode cX4_copyFrom 61 = .ok (.getfield 25, 3) := by decide +kernel
theorem dX4_copyFrom_64 : decode cX4_copyFrom 64 = .ok (.iconst 0, 1) := by decide +kernel
theorem dX4_copyFrom_65 : decode cX4_copyFrom 65 = .ok (.aload_n 0, 1) := by decide +kernel
theorem dX4_copyFrom_66 : decode cX4_copyFrom 66 = .ok (.getfield 25, 3) := by decide +kernel
theorem dX4_copyFrom_69 : decode cX4_copyFrom 69 = .ok (.iconst 0, 1) := by decide +kernel
theorem dX4_copyFrom_70 : decode cX4_copyFrom 70 = .ok (.bipush 8, 2) := by decide +kernel
theorem dX4_copyFrom_72 : decode cX4_copyFrom 72 = .ok (.invokestatic 82, 3) := by decide +kernel
theorem dX4_copyFrom_75 : decode cX4_copyFrom 75 = .ok (.aload_n 1, 1) := by decide +kernel
theorem dX4_copyFrom_76 : decode cX4_copyFrom 76 = .ok (.getfield 28, 3) := by decide +kernel
theorem dX4_copyFrom_79 : decode cX4_copyFrom 79 = .ok (.iconst 0, 1) := by decide +kernel
theorem dX4_copyFrom_80 : decode cX4_copyFrom 80 = .ok (.aload_n 0, 1) := by decide +kernel
theorem dX4_copyFrom_81 : decode cX4_copyFrom 81 = .ok (.getfield 28, 3) := by decide +kernel
theorem dX4_copyFrom_84 : decode cX4_copyFrom 84 = .ok (.iconst 0, 1) := by decide +kernel
theorem dX4_copyFrom_85 : decode cX4_copyFrom 85 = .ok (.bipush 8, 2) := by decide +kernel
theorem dX4_copyFrom_87 : decode cX4_copyFrom 87 = .ok (.invokestatic 82, 3) := by decide +kernel
theorem dX4_copyFrom_90 : decode cX4_copyFrom 90 = .ok (.aload_n 0, 1) := by decide +kernel
theorem dX4_copyFrom_91 : decode cX4_copyFrom 91 = .ok (.aload_n 1, 1) := by decide +kernel
theorem dX4_copyFrom_92 : decode cX4_copyFrom 92 = .ok (.getfield 63, 3) := by decide +kernel
theorem dX4_copyFrom_95 : decode cX4_copyFrom 95 = .ok (.putfield 63, 3) := by decide +kernel
theorem dX4_copyFrom_98 : decode cX4_copyFrom 98 = .ok (.aload_n 1, 1) := by decide +kernel
theorem dX4_copyFrom_99 : decode cX4_copyFrom 99 = .ok (.getfield 31, 3) := by decide +kernel
theorem dX4_copyFrom_102 : decode cX4_copyFrom 102 = .ok (.iconst 0, 1) := by decide +kernel
theorem dX4_copyFrom_103 : decode cX4_copyFrom 103 = .ok (.aload_n 0, 1) := by decide +kernel
theorem dX4_copyFrom_104 : decode cX4_copyFrom 104 = .ok (.getfield 31, 3) := by decide +kernel
theorem dX4_copyFrom_107 : decode cX4_copyFrom 107 = .ok (.iconst 0, 1) := by decide +kernel
theorem dX4_copyFrom_108 : decode cX4_copyFrom 108 = .ok (.iconst 4, 1) := by decide +kernel
theorem dX4_copyFrom_109 : decode cX4_copyFrom 109 = .ok (.invokestatic 82, 3) := by decide +kernel
theorem dX4_copyFrom_112 : decode cX4_copyFrom 112 = .ok (.aload_n 1, 1) := by decide +kernel
theorem dX4_copyFrom_113 : decode cX4_copyFrom 113 = .ok (.getfield 34, 3) := by decide +kernel
theorem dX4_copyFrom_116 : decode cX4_copyFrom 116 = .ok (.iconst 0, 1) := by decide +kernel
theorem dX4_copyFrom_117 : decode cX4_copyFrom 117 = .ok (.aload_n 0, 1) := by decide +kernel
theorem dX4_copyFrom_118 : decode cX4_copyFrom 118 = .ok (.getfield 34, 3) := by decide +kernel
theorem dX4_copyFrom_121 : decode cX4_copyFrom 121 = .ok (.iconst 0, 1) := by decide +kernel
theorem dX4_copyFrom_122 : decode cX4_copyFrom 122 = .ok (.iconst 4, 1) := by decide +kernel
theorem dX4_copyFrom_123 : decode cX4_copyFrom 123 = .ok (.invokestatic 82, 3) := by decide +kernel
theorem dX4_copyFrom_126 : decode cX4_copyFrom 126 = .ok (.aload_n 1, 1) := by decide +kernel
theorem dX4_copyFrom_127 : decode cX4_copyFrom 127 = .ok (.getfield 37, 3) := by decide +kernel
theorem dX4_copyFrom_130 : decode cX4_copyFrom 130 = .ok (.iconst 0, 1) := by decide +kernel
theorem dX4_copyFrom_131 : decode cX4_copyFrom 131 = .ok (.aload_n 0, 1) := by decide +kernel
theorem dX4_copyFrom_132 : decode cX4_copyFrom 132 = .ok (.getfield 37, 3) := by decide +kernel
theorem dX4_copyFrom_135 : decode cX4_copyFrom 135 = .ok (.iconst 0, 1) := by decide +kernel
theorem dX4_copyFrom_136 : decode cX4_copyFrom 136 = .ok (.iconst 4, 1) := by decide +kernel
theorem dX4_copyFrom_137 : decode cX4_copyFrom 137 = .ok (.invokestatic 82, 3) := by decide +kernel
theorem dX4_copyFrom_140 : decode cX4_copyFrom 140 = .ok (.aload_n 1, 1) := by decide +kernel
theorem dX4_copyFrom_141 : decode cX4_copyFrom 141 = .ok (.getfield 40, 3) := by decide +kernel
theorem dX4_copyFrom_144 : decode cX4_copyFrom 144 = .ok (.iconst 0, 1) := by decide +kernel
theorem dX4_copyFrom_145 : decode cX4_copyFrom 145 = .ok (.aload_n 0, 1) := by decide +kernel
theorem dX4_copyFrom_146 : decode cX4_copyFrom 146 = .ok (.getfield 40, 3) := by decide +kernel
theorem dX4_copyFrom_149 : decode cX4_copyFrom 149 = .ok (.iconst 0, 1) := by decide +kernel
theorem dX4_copyFrom_150 : decode cX4_copyFrom 150 = .ok (.iconst 4, 1) := by decide +kernel
theorem dX4_copyFrom_151 : decode cX4_copyFrom 151 = .ok (.invokestatic 82, 3) := by decide +kernel
theorem dX4_copyFrom_154 : decode cX4_copyFrom 154 = .ok (.aload_n 1, 1) := by decide +kernel
theorem dX4_copyFrom_155 : decode cX4_copyFrom 155 = .ok (.getfield 43, 3) := by decide +kernel
theorem dX4_copyFrom_158 : decode cX4_copyFrom 158 = .ok (.iconst 0, 1) := by decide +kernel
theorem dX4_copyFrom_159 : decode cX4_copyFrom 159 = .ok (.aload_n 0, 1) := by decide +kernel
theorem dX4_copyFrom_160 : decode cX4_copyFrom 160 = .ok (.getfield 43, 3) := by decide +kernel
theorem dX4_copyFrom_163 : decode cX4_copyFrom 163 = .ok (.iconst 0, 1) := by decide +kernel
theorem dX4_copyFrom_164 : decode cX4_copyFrom 164 = .ok (.iconst 4, 1) := by decide +kernel
theorem dX4_copyFrom_165 : decode cX4_copyFrom 165 = .ok (.invokestatic 82, 3) := by decide +kernel
theorem dX4_copyFrom_168 : decode cX4_copyFrom 168 = .ok (.aload_n 0, 1) := by decide +kernel
theorem dX4_copyFrom_169 : decode cX4_copyFrom 169 = .ok (.aload_n 1, 1) := by decide +kernel
theorem dX4_copyFrom_170 : decode cX4_copyFrom 170 = .ok (.getfield 66, 3) := by decide +kernel
theorem dX4_copyFrom_173 : decode cX4_copyFrom 173 = .ok (.putfield 66, 3) := by decide +kernel
theorem dX4_copyFrom_176 : decode cX4_copyFrom 176 = .ok (.aload_n 1, 1) := by decide +kernel
theorem dX4_copyFrom_177 : decode cX4_copyFrom 177 = .ok (.getfield 46, 3) := by decide +kernel
theorem dX4_copyFrom_180 : decode cX4_copyFrom 180 = .ok (.iconst 0, 1) := by decide +kernel
theorem dX4_copyFrom_181 : decode cX4_copyFrom 181 = .ok (.aload_n 0, 1) := by decide +kernel
theorem dX4_copyFrom_182 : decode cX4_copyFrom 182 = .ok (.getfield 46, 3) := by decide +kernel
theorem dX4_copyFrom_185 : decode cX4_copyFrom 185 = .ok (.iconst 0, 1) := by decide +kernel
theorem dX4_copyFrom_186 : decode cX4_copyFrom 186 = .ok (.bipush 12, 2) := by decide +kernel
theorem dX4_copyFrom_188 : decode cX4_copyFrom 188 = .ok (.invokestatic 82, 3) := by decide +kernel
theorem dX4_copyFrom_191 : decode cX4_copyFrom 191 = .ok (.aload_n 0, 1) := by decide +kernel
theorem dX4_copyFrom_192 : decode cX4_copyFrom 192 = .ok (.aload_n 1, 1) := by decide +kernel
theorem dX4_copyFrom_193 : decode cX4_copyFrom 193 = .ok (.getfield 69, 3) := by decide +kernel
theorem dX4_copyFrom_196 : decode cX4_copyFrom 196 = .ok (.putfield 69, 3) := by decide +kernel
theorem dX4_copyFrom_199 : decode cX4_copyFrom 199 = .ok (.aload_n 0, 1) := by decide +kernel
theorem dX4_copyFrom_200 : decode cX4_copyFrom 200 = .ok (.getfield 52, 3) := by decide +kernel
theorem dX4_copyFrom_203 : decode cX4_copyFrom 203 = .ok (.aload_n 1, 1) := by decide +kernel
theorem dX4_copyFrom_204 : decode cX4_copyFrom 204 = .ok (.getfield 52, 3) := by decide +kernel
theorem dX4_copyFrom_207 : decode cX4_copyFrom 207 = .ok (.invokevirtual 88, 3) := by decide +kernel
theorem dX4_copyFrom_210 : decode cX4_copyFrom 210 = .ok (.aload_n 0, 1) := by decide +kernel
theorem dX4_copyFrom_211 : decode cX4_copyFrom 211 = .ok (.aload_n 1, 1) := by decide +kernel
theorem dX4_copyFrom_212 : decode cX4_copyFrom 212 = .ok (.getfield 56, 3) := by decide +kernel
theorem dX4_copyFrom_215 : decode cX4_copyFrom 215 = .ok (.putfield 56, 3) := by decide +kernel
theorem dX4_copyFrom_218 : decode cX4_copyFrom 218 = .ok (.aload_n 0, 1) := by decide +kernel
theorem dX4_copyFrom_219 : decode cX4_copyFrom 219 = .ok (.aload_n 1, 1) := by decide +kernel
theorem dX4_copyFrom_220 : decode cX4_copyFrom 220 = .ok (.getfield 60, 3) := by decide +kernel
theorem dX4_copyFrom_223 : decode cX4_copyFrom 223 = .ok (.putfield 60, 3) := by decide +kernel
theorem dX4_copyFrom_226 : decode cX4_copyFrom 226 = .ok (.aload_n 0, 1) := by decide +kernel
theorem dX4_copyFrom_227 : decode cX4_copyFrom 227 = .ok (.aload_n 1, 1) := by decide +kernel
theorem dX4_copyFrom_228 : decode cX4_copyFrom 228 = .ok (.getfield 75, 3) := by decide +kernel
theorem dX4_copyFrom_231 : decode cX4_copyFrom 231 = .ok (.putfield 75, 3) := by decide +kernel
theorem dX4_copyFrom_234 : decode cX4_copyFrom 234 = .ok (.aload_n 0, 1) := by decide +kernel
theorem dX4_copyFrom_235 : decode cX4_copyFrom 235 = .ok (.aload_n 1, 1) := by decide +kernel
theorem dX4_copyFrom_236 : decode cX4_copyFrom 236 = .ok (.getfield 79, 3) := by decide +kernel
theorem dX4_copyFrom_239 : decode cX4_copyFrom 239 = .ok (.putfield 79, 3) := by decide +kernel
theorem dX4_copyFrom_242 : decode cX4_copyFrom 242 = .ok (.return_, 1) := by decide +kernel
theorem dX4_hasPerson_0 : decode cX4_hasPerson 0 = .ok (.iload_n 1, 1) := by decide +kernel
theorem dX4_hasPerson_1 : decode cX4_hasPerson 1 = .ok (.ifCond .lt 15, 3) := by decide +kernel
theorem dX4_hasPerson_4 : decode cX4_hasPerson 4 = .ok (.iload_n 1, 1) := by decide +kernel
theorem dX4_hasPerson_5 : decode cX4_hasPerson 5 = .ok (.aload_n 0, 1) := by decide +kernel
theorem dX4_hasPerson_6 : decode cX4_hasPerson 6 = .ok (.getfield 63, 3) := by decide +kernel
theorem dX4_hasPerson_9 : decode cX4_hasPerson 9 = .ok (.if_icmp .ge 7, 3) := by decide +kernel
theorem dX4_hasPerson_12 : decode cX4_hasPerson 12 = .ok (.iconst 1, 1) := by decide +kernel
theorem dX4_hasPerson_13 : decode cX4_hasPerson 13 = .ok (.goto 4, 3) := by decide +kernel
theorem dX4_hasPerson_16 : decode cX4_hasPerson 16 = .ok (.iconst 0, 1) := by decide +kernel
theorem dX4_hasPerson_17 : decode cX4_hasPerson 17 = .ok (.ireturn, 1) := by decide +kernel
theorem dX4_hasGlass_0 : decode cX4_hasGlass 0 = .ok (.iload_n 1, 1) := by decide +kernel
theorem dX4_hasGlass_1 : decode cX4_hasGlass 1 = .ok (.ifCond .lt 15, 3) := by decide +kernel
theorem dX4_hasGlass_4 : decode cX4_hasGlass 4 = .ok (.iload_n 1, 1) := by decide +kernel
theorem dX4_hasGlass_5 : decode cX4_hasGlass 5 = .ok (.aload_n 0, 1) := by decide +kernel
theorem dX4_hasGlass_6 : decode cX4_hasGlass 6 = .ok (.getfield 66, 3) := by decide +kernel
theorem dX4_hasGlass_9 : decode cX4_hasGlass 9 = .ok (.if_icmp .ge 7, 3) := by decide +kernel
theorem dX4_hasGlass_12 : decode cX4_hasGlass 12 = .ok (.iconst 1, 1) := by decide +kernel
theorem dX4_hasGlass_13 : decode cX4_hasGlass 13 = .ok (.goto 4, 3) := by decide +kernel
theorem dX4_hasGlass_16 : decode cX4_hasGlass 16 = .ok (.iconst 0, 1) := by decide +kernel
theorem dX4_hasGlass_17 : decode cX4_hasGlass 17 = .ok (.ireturn, 1) := by decide +kernel
theorem dX4_personNamed_0 : decode cX4_personNamed 0 = .ok (.aload_n 0, 1) := by decide +kernel
theorem dX4_personNamed_1 : decode cX4_personNamed 1 = .ok (.getfield 9, 3) := by decide +kernel
theorem dX4_personNamed_4 : decode cX4_personNamed 4 = .ok (.aload_n 0, 1) := by decide +kernel
theorem dX4_personNamed_5 : decode cX4_personNamed 5 = .ok (.getfield 63, 3) := by decide +kernel
theorem dX4_personNamed_8 : decode cX4_personNamed 8 = .ok (.lload_n 1, 1) := by decide +kernel
theorem dX4_personNamed_9 : decode cX4_personNamed 9 = .ok (.invokestatic 92, 3) := by decide +kernel
theorem dX4_personNamed_12 : decode cX4_personNamed 12 = .ok (.ireturn, 1) := by decide +kernel
theorem dX4_glassNamed_0 : decode cX4_glassNamed 0 = .ok (.aload_n 0, 1) := by decide +kernel
theorem dX4_glassNamed_1 : decode cX4_glassNamed 1 = .ok (.getfield 31, 3) := by decide +kernel
theorem dX4_glassNamed_4 : decode cX4_glassNamed 4 = .ok (.aload_n 0, 1) := by decide +kernel
theorem dX4_glassNamed_5 : decode cX4_glassNamed 5 = .ok (.getfield 66, 3) := by decide +kernel
theorem dX4_glassNamed_8 : decode cX4_glassNamed 8 = .ok (.lload_n 1, 1) := by decide +kernel
theorem dX4_glassNamed_9 : decode cX4_glassNamed 9 = .ok (.invokestatic 92, 3) := by decide +kernel
theorem dX4_glassNamed_12 : decode cX4_glassNamed 12 = .ok (.ireturn, 1) := by decide +kernel
theorem dX4_isTold_0 : decode cX4_isTold 0 = .ok (.aload_n 0, 1) := by decide +kernel
theorem dX4_isTold_1 : decode cX4_isTold 1 = .ok (.lload_n 1, 1) := by decide +kernel
theorem dX4_isTold_2 : decode cX4_isTold 2 = .ok (.invokevirtual 96, 3) := by decide +kernel
theorem dX4_isTold_5 : decode cX4_isTold 5 = .ok (.iconst (-1), 1) := by decide +kernel
theorem dX4_isTold_6 : decode cX4_isTold 6 = .ok (.if_icmp .ne 34, 3) := by decide +kernel
theorem dX4_isTold_9 : decode cX4_isTold 9 = .ok (.aload_n 0, 1) := by decide +kernel
theorem dX4_isTold_10 : decode cX4_isTold 10 = .ok (.lload_n 1, 1) := by decide +kernel
theorem dX4_isTold_11 : decode cX4_isTold 11 = .ok (.invokevirtual 100, 3) := by decide +kernel
theorem dX4_isTold_14 : decode cX4_isTold 14 = .ok (.iconst (-1), 1) := by decide +kernel
theorem dX4_isTold_15 : decode cX4_isTold 15 = .ok (.if_icmp .ne 25, 3) := by decide +kernel
theorem dX4_isTold_18 : decode cX4_isTold 18 = .ok (.aload_n 0, 1) := by decide +kernel
theorem dX4_isTold_19 : decode cX4_isTold 19 = .ok (.getfield 52, 3) := by decide +kernel
theorem dX4_isTold_22 : decode cX4_isTold 22 = .ok (.getfield 103, 3) := by decide +kernel
theorem dX4_isTold_25 : decode cX4_isTold 25 = .ok (.aload_n 0, 1) := by decide +kernel
theorem dX4_isTold_26 : decode cX4_isTold 26 = .ok (.getfield 52, 3) := by decide +kernel
theorem dX4_isTold_29 : decode cX4_isTold 29 = .ok (.getfield 72, 3) := by decide +kernel
theorem dX4_isTold_32 : decode cX4_isTold 32 = .ok (.lload_n 1, 1) := by decide +kernel
theorem dX4_isTold_33 : decode cX4_isTold 33 = .ok (.invokestatic 92, 3) := by decide +kernel
theorem dX4_isTold_36 : decode cX4_isTold 36 = .ok (.iconst (-1), 1) := by decide +kernel
theorem dX4_isTold_37 : decode cX4_isTold 37 = .ok (.if_icmp .eq 7, 3) := by decide +kernel
theorem dX4_isTold_40 : decode cX4_isTold 40 = .ok (.iconst 1, 1) := by decide +kernel
theorem dX4_isTold_41 : decode cX4_isTold 41 = .ok (.goto 4, 3) := by decide +kernel
theorem dX4_isTold_44 : decode cX4_isTold 44 = .ok (.iconst 0, 1) := by decide +kernel
theorem dX4_isTold_45 : decode cX4_isTold 45 = .ok (.ireturn, 1) := by decide +kernel
theorem dX4_placeOf_0 : decode cX4_placeOf 0 = .ok (.iconst 0, 1) := by decide +kernel
theorem dX4_placeOf_1 : decode cX4_placeOf 1 = .ok (.istore 4, 2) := by decide +kernel
theorem dX4_placeOf_3 : decode cX4_placeOf 3 = .ok (.iload 4, 2) := by decide +kernel
theorem dX4_placeOf_5 : decode cX4_placeOf 5 = .ok (.iload_n 1, 1) := by decide +kernel
theorem dX4_placeOf_6 : decode cX4_placeOf 6 = .ok (.if_icmp .ge 28, 3) := by decide +kernel
theorem dX4_placeOf_9 : decode cX4_placeOf 9 = .ok (.iload 4, 2) := by decide +kernel
theorem dX4_placeOf_11 : decode cX4_placeOf 11 = .ok (.aload_n 0, 1) := by decide +kernel
theorem dX4_placeOf_12 : decode cX4_placeOf 12 = .ok (.arraylength, 1) := by decide +kernel
theorem dX4_placeOf_13 : decode cX4_placeOf 13 = .ok (.if_icmp .ge 21, 3) := by decide +kernel
theorem dX4_placeOf_16 : decode cX4_placeOf 16 = .ok (.aload_n 0, 1) := by decide +kernel
theorem dX4_placeOf_17 : decode cX4_placeOf 17 = .ok (.iload 4, 2) := by decide +kernel
theorem dX4_placeOf_19 : decode cX4_placeOf 19 = .ok (.laload, 1) := by decide +kernel
theorem dX4_placeOf_20 : decode cX4_placeOf 20 = .ok (.lload_n 2, 1) := by decide +kernel
theorem dX4_placeOf_21 : decode cX4_placeOf 21 = .ok (.lcmp, 1) := by decide +kernel
theorem dX4_placeOf_22 : decode cX4_placeOf 22 = .ok (.ifCond .ne 6, 3) := by decide +kernel
theorem dX4_placeOf_25 : decode cX4_placeOf 25 = .ok (.iload 4, 2) := by decide +kernel
theorem dX4_placeOf_27 : decode cX4_placeOf 27 = .ok (.ireturn, 1) := by decide +kernel
theorem dX4_placeOf_28 : decode cX4_placeOf 28 = .ok (.iinc 4 1, 3) := by decide +kernel
theorem dX4_placeOf_31 : decode cX4_placeOf 31 = .ok (.goto (-28), 3) := by decide +kernel
theorem dX4_placeOf_34 : decode cX4_placeOf 34 = .ok (.iconst (-1), 1) := by decide +kernel
theorem dX4_placeOf_35 : decode cX4_placeOf 35 = .ok (.ireturn, 1) := by decide +kernel
theorem dX4_glassOf_0 : decode cX4_glassOf 0 = .ok (.iconst 0, 1) := by decide +kernel
theorem dX4_glassOf_1 : decode cX4_glassOf 1 = .ok (.istore_n 2, 1) := by decide +kernel
theorem dX4_glassOf_2 : decode cX4_glassOf 2 = .ok (.iload_n 2, 1) := by decide +kernel
theorem dX4_glassOf_3 : decode cX4_glassOf 3 = .ok (.aload_n 0, 1) := by decide +kernel
theorem dX4_glassOf_4 : decode cX4_glassOf 4 = .ok (.getfield 66, 3) := by decide +kernel
theorem dX4_glassOf_7 : decode cX4_glassOf 7 = .ok (.if_icmp .ge 31, 3) := by decide +kernel
theorem dX4_glassOf_10 : decode cX4_glassOf 10 = .ok (.aload_n 0, 1) := by decide +kernel
theorem dX4_glassOf_11 : decode cX4_glassOf 11 = .ok (.getfield 34, 3) := by decide +kernel
theorem dX4_glassOf_14 : decode cX4_glassOf 14 = .ok (.iload_n 2, 1) := by decide +kernel
theorem dX4_glassOf_15 : decode cX4_glassOf 15 = .ok (.iaload, 1) := by decide +kernel
theorem dX4_glassOf_16 : decode cX4_glassOf 16 = .ok (.iload_n 1, 1) := by decide +kernel
theorem dX4_glassOf_17 : decode cX4_glassOf 17 = .ok (.if_icmp .eq 13, 3) := by decide +kernel
theorem dX4_glassOf_20 : decode cX4_glassOf 20 = .ok (.aload_n 0, 1) := by decide +kernel
theorem dX4_glassOf_21 : decode cX4_glassOf 21 = .ok (.getfield 37, 3) := by decide +kernel
theorem dX4_glassOf_24 : decode cX4_glassOf 24 = .ok (.iload_n 2, 1) := by decide +kernel
theorem dX4_glassOf_25 : decode cX4_glassOf 25 = .ok (.iaload, 1) := by decide +kernel
theorem dX4_glassOf_26 : decode cX4_glassOf 26 = .ok (.iload_n 1, 1) := by decide +kernel
theorem dX4_glassOf_27 : decode cX4_glassOf 27 = .ok (.if_icmp .ne 5, 3) := by decide +kernel
theorem dX4_glassOf_30 : decode cX4_glassOf 30 = .ok (.iload_n 2, 1) := by decide +kernel
theorem dX4_glassOf_31 : decode cX4_glassOf 31 = .ok (.ireturn, 1) := by decide +kernel
theorem dX4_glassOf_32 : decode cX4_glassOf 32 = .ok (.iinc 2 1, 3) := by decide +kernel
theorem dX4_glassOf_35 : decode cX4_glassOf 35 = .ok (.goto (-33), 3) := by decide +kernel
theorem dX4_glassOf_38 : decode cX4_glassOf 38 = .ok (.iconst (-1), 1) := by decide +kernel
theorem dX4_glassOf_39 : decode cX4_glassOf 39 = .ok (.ireturn, 1) := by decide +kernel
theorem dX4_otherOf_0 : decode cX4_otherOf 0 = .ok (.aload_n 0, 1) := by decide +kernel
theorem dX4_otherOf_1 : decode cX4_otherOf 1 = .ok (.iload_n 1, 1) := by decide +kernel
theorem dX4_otherOf_2 : decode cX4_otherOf 2 = .ok (.invokevirtual 106, 3) := by decide +kernel
theorem dX4_otherOf_5 : decode cX4_otherOf 5 = .ok (.istore_n 2, 1) := by decide +kernel
theorem dX4_otherOf_6 : decode cX4_otherOf 6 = .ok (.aload_n 0, 1) := by decide +kernel
theorem dX4_otherOf_7 : decode cX4_otherOf 7 = .ok (.iload_n 2, 1) := by decide +kernel
theorem dX4_otherOf_8 : decode cX4_otherOf 8 = .ok (.invokevirtual 110, 3) := by decide +kernel
theorem dX4_otherOf_11 : decode cX4_otherOf 11 = .ok (.ifCond .ne 5, 3) := by decide +kernel
theorem dX4_otherOf_14 : decode cX4_otherOf 14 = .ok (.iconst (-1), 1) := by decide +kernel
theorem dX4_otherOf_15 : decode cX4_otherOf 15 = .ok (.ireturn, 1) := by decide +kernel
theorem dX4_otherOf_16 : decode cX4_otherOf 16 = .ok (.aload_n 0, 1) := by decide +kernel
theorem dX4_otherOf_17 : decode cX4_otherOf 17 = .ok (.getfield 34, 3) := by decide +kernel
theorem dX4_otherOf_20 : decode cX4_otherOf 20 = .ok (.iload_n 2, 1) := by decide +kernel
theorem dX4_otherOf_21 : decode cX4_otherOf 21 = .ok (.iaload, 1) := by decide +kernel
theorem dX4_otherOf_22 : decode cX4_otherOf 22 = .ok (.iload_n 1, 1) := by decide +kernel
theorem dX4_otherOf_23 : decode cX4_otherOf 23 = .ok (.if_icmp .ne 12, 3) := by decide +kernel
theorem dX4_otherOf_26 : decode cX4_otherOf 26 = .ok (.aload_n 0, 1) := by decide +kernel
theorem dX4_otherOf_27 : decode cX4_otherOf 27 = .ok (.getfield 37, 3) := by decide +kernel
theorem dX4_otherOf_30 : decode cX4_otherOf 30 = .ok (.iload_n 2, 1) := by decide +kernel
theorem dX4_otherOf_31 : decode cX4_otherOf 31 = .ok (.iaload, 1) := by decide +kernel
theorem dX4_otherOf_32 : decode cX4_otherOf 32 = .ok (.goto 9, 3) := by decide +kernel
theorem dX4_otherOf_35 : decode cX4_otherOf 35 = .ok (.aload_n 0, 1) := by decide +kernel
theorem dX4_otherOf_36 : decode cX4_otherOf 36 = .ok (.getfield 34, 3) := by decide +kernel
theorem dX4_otherOf_39 : decode cX4_otherOf 39 = .ok (.iload_n 2, 1) := by decide +kernel
theorem dX4_otherOf_40 : decode cX4_otherOf 40 = .ok (.iaload, 1) := by decide +kernel
theorem dX4_otherOf_41 : decode cX4_otherOf 41 = .ok (.ireturn, 1) := by decide +kernel
theorem dX4_isDamp_0 : decode cX4_isDamp 0 = .ok (.iconst 0, 1) := by decide +kernel
theorem dX4_isDamp_1 : decode cX4_isDamp 1 = .ok (.istore_n 2, 1) := by decide +kernel
theorem dX4_isDamp_2 : decode cX4_isDamp 2 = .ok (.iload_n 2, 1) := by decide +kernel
theorem dX4_isDamp_3 : decode cX4_isDamp 3 = .ok (.aload_n 0, 1) := by decide +kernel
theorem dX4_isDamp_4 : decode cX4_isDamp 4 = .ok (.getfield 69, 3) := by decide +kernel
theorem dX4_isDamp_7 : decode cX4_isDamp 7 = .ok (.if_icmp .ge 37, 3) := by decide +kernel
theorem dX4_isDamp_10 : decode cX4_isDamp 10 = .ok (.iload_n 1, 1) := by decide +kernel
theorem dX4_isDamp_11 : decode cX4_isDamp 11 = .ok (.aload_n 0, 1) := by decide +kernel
theorem dX4_isDamp_12 : decode cX4_isDamp 12 = .ok (.getfield 46, 3) := by decide +kernel
theorem dX4_isDamp_15 : decode cX4_isDamp 15 = .ok (.iconst 2, 1) := by decide +kernel
theorem dX4_isDamp_16 : decode cX4_isDamp 16 = .ok (.iload_n 2, 1) := by decide +kernel
theorem dX4_isDamp_17 : decode cX4_isDamp 17 = .ok (.imul, 1) := by decide +kernel
theorem dX4_isDamp_18 : decode cX4_isDamp 18 = .ok (.iaload, 1) := by decide +kernel
theorem dX4_isDamp_19 : decode cX4_isDamp 19 = .ok (.if_icmp .lt 19, 3) := by decide +kernel
theorem dX4_isDamp_22 : decode cX4_isDamp 22 = .ok (.iload_n 1, 1) := by decide +kernel
theorem dX4_isDamp_23 : decode cX4_isDamp 23 = .ok (.aload_n 0, 1) := by decide +kernel
theorem dX4_isDamp_24 : decode cX4_isDamp 24 = .ok (.getfield 46, 3) := by decide +kernel
theorem dX4_isDamp_27 : decode cX4_isDamp 27 = .ok (.iconst 2, 1) := by decide +kernel
theorem dX4_isDamp_28 : decode cX4_isDamp 28 = .ok (.iload_n 2, 1) := by decide +kernel
theorem dX4_isDamp_29 : decode cX4_isDamp 29 = .ok (.imul, 1) := by decide +kernel
theorem dX4_isDamp_30 : decode cX4_isDamp 30 = .ok (.iconst 1, 1) := by decide +kernel
theorem dX4_isDamp_31 : decode cX4_isDamp 31 = .ok (.iadd, 1) := by decide +kernel
theorem dX4_isDamp_32 : decode cX4_isDamp 32 = .ok (.iaload, 1) := by decide +kernel
theorem dX4_isDamp_33 : decode cX4_isDamp 33 = .ok (.if_icmp .gt 5, 3) := by decide +kernel
theorem dX4_isDamp_36 : decode cX4_isDamp 36 = .ok (.iconst 1, 1) := by decide +kernel
theorem dX4_isDamp_37 : decode cX4_isDamp 37 = .ok (.ireturn, 1) := by decide +kernel
theorem dX4_isDamp_38 : decode cX4_isDamp 38 = .ok (.iinc 2 1, 3) := by decide +kernel
theorem dX4_isDamp_41 : decode cX4_isDamp 41 = .ok (.goto (-39), 3) := by decide +kernel
theorem dX4_isDamp_44 : decode cX4_isDamp 44 = .ok (.iconst 0, 1) := by decide +kernel
theorem dX4_isDamp_45 : decode cX4_isDamp 45 = .ok (.ireturn, 1) := by decide +kernel
theorem dX4_isUp_0 : decode cX4_isUp 0 = .ok (.iload_n 2, 1) := by decide +kernel
theorem dX4_isUp_1 : decode cX4_isUp 1 = .ok (.bipush 24, 2) := by decide +kernel
theorem dX4_isUp_3 : decode cX4_isUp 3 = .ok (.irem, 1) := by decide +kernel
theorem dX4_isUp_4 : decode cX4_isUp 4 = .ok (.istore_n 3, 1) := by decide +kernel
theorem dX4_isUp_5 : decode cX4_isUp 5 = .ok (.aload_n 0, 1) := by decide +kernel
theorem dX4_isUp_6 : decode cX4_isUp 6 = .ok (.getfield 15, 3) := by decide +kernel
theorem dX4_isUp_9 : decode cX4_isUp 9 = .ok (.iload_n 1, 1) := by decide +kernel
theorem dX4_isUp_10 : decode cX4_isUp 10 = .ok (.iaload, 1) := by decide +kernel
theorem dX4_isUp_11 : decode cX4_isUp 11 = .ok (.aload_n 0, 1) := by decide +kernel
theorem dX4_isUp_12 : decode cX4_isUp 12 = .ok (.getfield 19, 3) := by decide +kernel
theorem dX4_isUp_15 : decode cX4_isUp 15 = .ok (.iload_n 1, 1) := by decide +kernel
theorem dX4_isUp_16 : decode cX4_isUp 16 = .ok (.iaload, 1) := by decide +kernel
theorem dX4_isUp_17 : decode cX4_isUp 17 = .ok (.if_icmp .ne 5, 3) := by decide +kernel
theorem dX4_isUp_20 : decode cX4_isUp 20 = .ok (.iconst 1, 1) := by decide +kernel
theorem dX4_isUp_21 : decode cX4_isUp 21 = .ok (.ireturn, 1) := by decide +kernel
theorem dX4_isUp_22 : decode cX4_isUp 22 = .ok (.aload_n 0, 1) := by decide +kernel
theorem dX4_isUp_23 : decode cX4_isUp 23 = .ok (.getfield 19, 3) := by decide +kernel
theorem dX4_isUp_26 : decode cX4_isUp 26 = .ok (.iload_n 1, 1) := by decide +kernel
theorem dX4_isUp_27 : decode cX4_isUp 27 = .ok (.iaload, 1) := by decide +kernel
theorem dX4_isUp_28 : decode cX4_isUp 28 = .ok (.aload_n 0, 1) := by decide +kernel
theorem dX4_isUp_29 : decode cX4_isUp 29 = .ok (.getfield 15, 3) := by decide +kernel
theorem dX4_isUp_32 : decode cX4_isUp 32 = .ok (.iload_n 1, 1) := by decide +kernel
theorem dX4_isUp_33 : decode cX4_isUp 33 = .ok (.iaload, 1) := by decide +kernel
theorem dX4_isUp_34 : decode cX4_isUp 34 = .ok (.if_icmp .ge 29, 3) := by decide +kernel
theorem dX4_isUp_37 : decode cX4_isUp 37 = .ok (.iload_n 3, 1) := by decide +kernel
theorem dX4_isUp_38 : decode cX4_isUp 38 = .ok (.aload_n 0, 1) := by decide +kernel
theorem dX4_isUp_39 : decode cX4_isUp 39 = .ok (.getfield 15, 3) := by decide +kernel
theorem dX4_isUp_42 : decode cX4_isUp 42 = .ok (.iload_n 1, 1) := by decide +kernel
theorem dX4_isUp_43 : decode cX4_isUp 43 = .ok (.iaload, 1) := by decide +kernel
theorem dX4_isUp_44 : decode cX4_isUp 44 = .ok (.if_icmp .ge 13, 3) := by decide +kernel
theorem dX4_isUp_47 : decode cX4_isUp 47 = .ok (.iload_n 3, 1) := by decide +kernel
theorem dX4_isUp_48 : decode cX4_isUp 48 = .ok (.aload_n 0, 1) := by decide +kernel
theorem dX4_isUp_49 : decode cX4_isUp 49 = .ok (.getfield 19, 3) := by decide +kernel
theorem dX4_isUp_52 : decode cX4_isUp 52 = .ok (.iload_n 1, 1) := by decide +kernel
theorem dX4_isUp_53 : decode cX4_isUp 53 = .ok (.iaload, 1) := by decide +kernel
theorem dX4_isUp_54 : decode cX4_isUp 54 = .ok (.if_icmp .ge 7, 3) := by decide +kernel
theorem dX4_isUp_57 : decode cX4_isUp 57 = .ok (.iconst 1, 1) := by decide +kernel
theorem dX4_isUp_58 : decode cX4_isUp 58 = .ok (.goto 4, 3) := by decide +kernel
theorem dX4_isUp_61 : decode cX4_isUp 61 = .ok (.iconst 0, 1) := by decide +kernel
theorem dX4_isUp_62 : decode cX4_isUp 62 = .ok (.ireturn, 1) := by decide +kernel
theorem dX4_isUp_63 : decode cX4_isUp 63 = .ok (.iload_n 3, 1) := by decide +kernel
theorem dX4_isUp_64 : decode cX4_isUp 64 = .ok (.aload_n 0, 1) := by decide +kernel
theorem dX4_isUp_65 : decode cX4_isUp 65 = .ok (.getfield 15, 3) := by decide +kernel
theorem dX4_isUp_68 : decode cX4_isUp 68 = .ok (.iload_n 1, 1) := by decide +kernel
theorem dX4_isUp_69 : decode cX4_isUp 69 = .ok (.iaload, 1) := by decide +kernel
theorem dX4_isUp_70 : decode cX4_isUp 70 = .ok (.if_icmp .lt 17, 3) := by decide +kernel
theorem dX4_isUp_73 : decode cX4_isUp 73 = .ok (.iload_n 3, 1) := by decide +kernel
theorem dX4_isUp_74 : decode cX4_isUp 74 = .ok (.aload_n 0, 1) := by decide +kernel
theorem dX4_isUp_75 : decode cX4_isUp 75 = .ok (.getfield 19, 3) := by decide +kernel
theorem dX4_isUp_78 : decode cX4_isUp 78 = .ok (.iload_n 1, 1) := by decide +kernel
theorem dX4_isUp_79 : decode cX4_isUp 79 = .ok (.iaload, 1) := by decide +kernel
theorem dX4_isUp_80 : decode cX4_isUp 80 = .ok (.if_icmp .ge 7, 3) := by decide +kernel
theorem dX4_isUp_83 : decode cX4_isUp 83 = .ok (.iconst 1, 1) := by decide +kernel
theorem dX4_isUp_84 : decode cX4_isUp 84 = .ok (.goto 4, 3) := by decide +kernel
theorem dX4_isUp_87 : decode cX4_isUp 87 = .ok (.iconst 0, 1) := by decide +kernel
theorem dX4_isUp_88 : decode cX4_isUp 88 = .ok (.ireturn, 1) := by decide +kernel
theorem dX4_fondNextDay_0 : decode cX4_fondNextDay 0 = .ok (.bipush 99, 2) := by decide +kernel
theorem dX4_fondNextDay_2 : decode cX4_fondNextDay 2 = .ok (.iload_n 2, 1) := by decide +kernel
theorem dX4_fondNextDay_3 : decode cX4_fondNextDay 3 = .ok (.aload_n 0, 1) := by decide +kernel
theorem dX4_fondNextDay_4 : decode cX4_fondNextDay 4 = .ok (.getfield 25, 3) := by decide +kernel
theorem dX4_fondNextDay_7 : decode cX4_fondNextDay 7 = .ok (.iload_n 1, 1) := by decide +kernel
theorem dX4_fondNextDay_8 : decode cX4_fondNextDay 8 = .ok (.iaload, 1) := by decide +kernel
theorem dX4_fondNextDay_9 : decode cX4_fondNextDay 9 = .ok (.iadd, 1) := by decide +kernel
theorem dX4_fondNextDay_10 : decode cX4_fondNextDay 10 = .ok (.invokestatic 114, 3) := by decide +kernel
theorem dX4_fondNextDay_13 : decode cX4_fondNextDay 13 = .ok (.istore_n 3, 1) := by decide +kernel
theorem dX4_fondNextDay_14 : decode cX4_fondNextDay 14 = .ok (.iconst 0, 1) := by decide +kernel
theorem dX4_fondNextDay_15 : decode cX4_fondNextDay 15 = .ok (.iload_n 3, 1) := by decide +kernel
theorem dX4_fondNextDay_16 : decode cX4_fondNextDay 16 = .ok (.aload_n 0, 1) := by decide +kernel
theorem dX4_fondNextDay_17 : decode cX4_fondNextDay 17 = .ok (.getfield 28, 3) := by decide +kernel
theorem dX4_fondNextDay_20 : decode cX4_fondNextDay 20 = .ok (.iload_n 1, 1) := by decide +kernel
theorem dX4_fondNextDay_21 : decode cX4_fondNextDay 21 = .ok (.iaload, 1) := by decide +kernel
theorem dX4_fondNextDay_22 : decode cX4_fondNextDay 22 = .ok (.isub, 1) := by decide +kernel
theorem dX4_fondNextDay_23 : decode cX4_fondNextDay 23 = .ok (.invokestatic 120, 3) := by decide +kernel
theorem dX4_fondNextDay_26 : decode cX4_fondNextDay 26 = .ok (.ireturn, 1) := by decide +kernel
theorem dX5_init_0 : decode cX5_init 0 = .ok (.aload_n 0, 1) := by decide +kernel
theorem dX5_init_1 : decode cX5_init 1 = .ok (.invokespecial 3, 3) := by decide +kernel
theorem dX5_init_4 : decode cX5_init 4 = .ok (.aload_n 0, 1) := by decide +kernel
theorem dX5_init_5 : decode cX5_init 5 = .ok (.aload_n 1, 1) := by decide +kernel
theorem dX5_init_6 : decode cX5_init 6 = .ok (.putfield 9, 3) := by decide +kernel
theorem dX5_init_9 : decode cX5_init 9 = .ok (.aload_n 0, 1) := by decide +kernel
theorem dX5_init_10 : decode cX5_init 10 = .ok (.aload_n 2, 1) := by decide +kernel
theorem dX5_init_11 : decode cX5_init 11 = .ok (.putfield 15, 3) := by decide +kernel
theorem dX5_init_14 : decode cX5_init 14 = .ok (.return_, 1) := by decide +kernel
theorem dX5_read_0 : decode cX5_read 0 = .ok (.aload_n 0, 1) := by decide +kernel
theorem dX5_read_1 : decode cX5_read 1 = .ok (.getfield 15, 3) := by decide +kernel
theorem dX5_read_4 : decode cX5_read 4 = .ok (.invokevirtual 19, 3) := by decide +kernel
theorem dX5_read_7 : decode cX5_read 7 = .ok (.aload_n 0, 1) := by decide +kernel
theorem dX5_read_8 : decode cX5_read 8 = .ok (.iconst 0, 1) := by decide +kernel
theorem dX5_read_9 : decode cX5_read 9 = .ok (.putfield 24, 3) := by decide +kernel
theorem dX5_read_12 : decode cX5_read 12 = .ok (.aload_n 0, 1) := by decide +kernel
theorem dX5_read_13 : decode cX5_read 13 = .ok (.iconst 0, 1) := by decide +kernel
theorem dX5_read_14 : decode cX5_read 14 = .ok (.putfield 28, 3) := by decide +kernel
theorem dX5_read_17 : decode cX5_read 17 = .ok (.aload_n 0, 1) := by decide +kernel
theorem dX5_read_18 : decode cX5_read 18 = .ok (.getfield 9, 3) := by decide +kernel
theorem dX5_read_21 : decode cX5_read 21 = .ok (.sipush 900, 3) := by decide +kernel
theorem dX5_read_24 : decode cX5_read 24 = .ok (.invokevirtual 31, 3) := by decide +kernel
theorem dX5_read_27 : decode cX5_read 27 = .ok (.iconst 0, 1) := by decide +kernel
theorem dX5_read_28 : decode cX5_read 28 = .ok (.istore_n 1, 1) := by decide +kernel
theorem dX5_read_29 : decode cX5_read 29 = .ok (.aload_n 0, 1) := by decide +kernel
theorem dX5_read_30 : decode cX5_read 30 = .ok (.getfield 9, 3) := by decide +kernel
theorem dX5_read_33 : decode cX5_read 33 = .ok (.invokevirtual 37, 3) := by decide +kernel
theorem dX5_read_36 : decode cX5_read 36 = .ok (.aload_n 0, 1) := by decide +kernel
theorem dX5_read_37 : decode cX5_read 37 = .ok (.getfield 9, 3) := by decide +kernel
theorem dX5_read_40 : decode cX5_read 40 = .ok (.getfield 40, 3) := by decide +kernel
theorem dX5_read_43 : decode cX5_read 43 = .ok (.ifCond .eq 50, 3) := by decide +kernel
theorem dX5_read_46 : decode cX5_read 46 = .ok (.iload_n 1, 1) := by decide +kernel
theorem dX5_read_47 : decode cX5_read 47 = .ok (.sipush 900, 3) := by decide +kernel
theorem dX5_read_50 : decode cX5_read 50 = .ok (.if_icmp .ge 43, 3) := by decide +kernel
theorem dX5_read_53 : decode cX5_read 53 = .ok (.aload_n 0, 1) := by decide +kernel
theorem dX5_read_54 : decode cX5_read 54 = .ok (.invokevirtual 44, 3) := by decide +kernel
theorem dX5_read_57 : decode cX5_read 57 = .ok (.ifCond .eq 13, 3) := by decide +kernel
theorem dX5_read_60 : decode cX5_read 60 = .ok (.aload_n 0, 1) := by decide +kernel
theorem dX5_read_61 : decode cX5_read 61 = .ok (.getfield 9, 3) := by decide +kernel
theorem dX5_read_64 : decode cX5_read 64 = .ok (.invokevirtual 48, 3) := by decide +kernel
theorem dX5_read_67 : decode cX5_read 67 = .ok (.ifCond .ne 13, 3) := by decide +kernel
theorem dX5_read_70 : decode cX5_read 70 = .ok (.iconst (-1), 1) := by decide +kernel
theorem dX5_read_71 : decode cX5_read 71 = .ok (.aload_n 0, 1) := by decide +kernel
theorem dX5_read_72 : decode cX5_read 72 = .ok (.getfield 9, 3) := by decide +kernel
theorem dX5_read_75 : decode cX5_read 75 = .ok (.getfield 51, 3) := by decide +kernel
theorem dX5_read_78 : decode cX5_read 78 = .ok (.isub, 1) := by decide +kernel
theorem dX5_read_79 : decode cX5_read 79 = .ok (.ireturn, 1) := by decide +kernel
theorem dX5_read_80 : decode cX5_read 80 = .ok (.iinc 1 1, 3) := by decide +kernel
theorem dX5_read_83 : decode cX5_read 83 = .ok (.aload_n 0, 1) := by decide +kernel
theorem dX5_read_84 : decode cX5_read 84 = .ok (.getfield 9, 3) := by decide +kernel
theorem dX5_read_87 : decode cX5_read 87 = .ok (.invokevirtual 37, 3) := by decide +kernel
theorem dX5_read_90 : decode cX5_read 90 = .ok (.goto (-54), 3) := by decide +kernel
theorem dX5_read_93 : decode cX5_read 93 = .ok (.iload_n 1, 1) := by decide +kernel
theorem dX5_read_94 : decode cX5_read 94 = .ok (.ireturn, 1) := by decide +kernel
theorem dX5_readLine_0 : decode cX5_readLine 0 = .ok (.getstatic 54, 3) := by decide +kernel
theorem dX5_readLine_3 : decode cX5_readLine 3 = .ok (.aload_n 0, 1) := by decide +kernel
theorem dX5_readLine_4 : decode cX5_readLine 4 = .ok (.getfield 9, 3) := by decide +kernel
theorem dX5_readLine_7 : decode cX5_readLine 7 = .ok (.getfield 60, 3) := by decide +kernel
theorem dX5_readLine_10 : decode cX5_readLine 10 = .ok (.invokevirtual 64, 3) := by decide +kernel
theorem dX5_readLine_13 : decode cX5_readLine 13 = .ok (.iaload, 1) := by decide +kernel
theorem dX5_readLine_14 : decode cX5_readLine 14 = .ok (.tableswitch 118 1 10 #[54, 59, 71, 83, 88, 93, 98, 103, 108, 113], 54) := by decide +kernel
theorem dX5_readLine_68 : decode cX5_readLine 68 = .ok (.aload_n 0, 1) := by decide +kernel
theorem dX5_readLine_69 : decode cX5_readLine 69 = .ok (.invokevirtual 70, 3) := by decide +kernel
theorem dX5_readLine_72 : decode cX5_readLine 72 = .ok (.ireturn, 1) := by decide +kernel
theorem dX5_readLine_73 : decode cX5_readLine 73 = .ok (.aload_n 0, 1) := by decide +kernel
theorem dX5_readLine_74 : decode cX5_readLine 74 = .ok (.aload_n 0, 1) := by decide +kernel
theorem dX5_readLine_75 : decode cX5_readLine 75 = .ok (.getfield 15, 3) := by decide +kernel
theorem dX5_readLine_78 : decode cX5_readLine 78 = .ok (.getfield 73, 3) := by decide +kernel
theorem dX5_readLine_81 : decode cX5_readLine 81 = .ok (.invokevirtual 76, 3) := by decide +kernel
theorem dX5_readLine_84 : decode cX5_readLine 84 = .ok (.ireturn, 1) := by decide +kernel
theorem dX5_readLine_85 : decode cX5_readLine 85 = .ok (.aload_n 0, 1) := by decide +kernel
theorem dX5_readLine_86 : decode cX5_readLine 86 = .ok (.aload_n 0, 1) := by decide +kernel
theorem dX5_readLine_87 : decode cX5_readLine 87 = .ok (.getfield 15, 3) := by decide +kernel
theorem dX5_readLine_90 : decode cX5_readLine 90 = .ok (.getfield 80, 3) := by decide +kernel
theorem dX5_readLine_93 : decode cX5_readLine 93 = .ok (.invokevirtual 76, 3) := by decide +kernel
theorem dX5_readLine_96 : decode cX5_readLine 96 = .ok (.ireturn, 1) := by decide +kernel
theorem dX5_readLine_97 : decode cX5_readLine 97 = .ok (.aload_n 0, 1) := by decide +kernel
theorem dX5_readLine_98 : decode cX5_readLine 98 = .ok (.invokevirtual 83, 3) := by decide +kernel
theorem dX5_readLine_101 : decode cX5_readLine 101 = .ok (.ireturn, 1) := by decide +kernel
theorem dX5_readLine_102 : decode cX5_readLine 102 = .ok (.aload_n 0, 1) := by decide +kernel
theorem dX5_readLine_103 : decode cX5_readLine 103 = .ok (.invokevirtual 86, 3) := by decide +kernel
theorem dX5_readLine_106 : decode cX5_readLine 106 = .ok (.ireturn, 1) := by decide +kernel
theorem dX5_readLine_107 : decode cX5_readLine 107 = .ok (.aload_n 0, 1) := by decide +kernel
theorem dX5_readLine_108 : decode cX5_readLine 108 = .ok (.invokevirtual 89, 3) := by decide +kernel
theorem dX5_readLine_111 : decode cX5_readLine 111 = .ok (.ireturn, 1) := by decide +kernel
theorem dX5_readLine_112 : decode cX5_readLine 112 = .ok (.aload_n 0, 1) := by decide +kernel
theorem dX5_readLine_113 : decode cX5_readLine 113 = .ok (.invokevirtual 92, 3) := by decide +kernel
theorem dX5_readLine_116 : decode cX5_readLine 116 = .ok (.ireturn, 1) := by decide +kernel
theorem dX5_readLine_117 : decode cX5_readLine 117 = .ok (.aload_n 0, 1) := by decide +kernel
theorem dX5_readLine_118 : decode cX5_readLine 118 = .ok (.invokevirtual 95, 3) := by decide +kernel
theorem dX5_readLine_121 : decode cX5_readLine 121 = .ok (.ireturn, 1) := by decide +kernel
theorem dX5_readLine_122 : decode cX5_readLine 122 = .ok (.aload_n 0, 1) := by decide +kernel
theorem dX5_readLine_123 : decode cX5_readLine 123 = .ok (.invokevirtual 98, 3) := by decide +kernel
theorem dX5_readLine_126 : decode cX5_readLine 126 = .ok (.ireturn, 1) := by decide +kernel
theorem dX5_readLine_127 : decode cX5_readLine 127 = .ok (.aload_n 0, 1) := by decide +kernel
theorem dX5_readLine_128 : decode cX5_readLine 128 = .ok (.invokevirtual 101, 3) := by decide +kernel
theorem dX5_readLine_131 : decode cX5_readLine 131 = .ok (.ireturn, 1) := by decide +kernel
theorem dX5_readLine_132 : decode cX5_readLine 132 = .ok (.aload_n 0, 1) := by decide +kernel
theorem dX5_readLine_133 : decode cX5_readLine 133 = .ok (.getfield 9, 3) := by decide +kernel
theorem dX5_readLine_136 : decode cX5_readLine 136 = .ok (.iconst 1, 1) := by decide +kernel
theorem dX5_readLine_137 : decode cX5_readLine 137 = .ok (.invokevirtual 104, 3) := by decide +kernel
theorem dX5_readLine_140 : decode cX5_readLine 140 = .ok (.ireturn, 1) := by decide +kernel
theorem dX5_takeNewName_0 : decode cX5_takeNewName 0 = .ok (.aload_n 0, 1) := by decide +kernel
theorem dX5_takeNewName_1 : decode cX5_takeNewName 1 = .ok (.getfield 9, 3) := by decide +kernel
theorem dX5_takeNewName_4 : decode cX5_takeNewName 4 = .ok (.invokevirtual 37, 3) := by decide +kernel
theorem dX5_takeNewName_7 : decode cX5_takeNewName 7 = .ok (.aload_n 0, 1) := by decide +kernel
theorem dX5_takeNewName_8 : decode cX5_takeNewName 8 = .ok (.getfield 9, 3) := by decide +kernel
theorem dX5_takeNewName_11 : decode cX5_takeNewName 11 = .ok (.getfield 60, 3) := by decide +kernel
theorem dX5_takeNewName_14 : decode cX5_takeNewName 14 = .ok (.getstatic 108, 3) := by decide +kernel
theorem dX5_takeNewName_17 : decode cX5_takeNewName 17 = .ok (.if_acmp .eq 12, 3) := by decide +kernel
theorem dX5_takeNewName_20 : decode cX5_takeNewName 20 = .ok (.aload_n 0, 1) := by decide +kernel
theorem dX5_takeNewName_21 : decode cX5_takeNewName 21 = .ok (.getfield 9, 3) := by decide +kernel
theorem dX5_takeNewName_24 : decode cX5_takeNewName 24 = .ok (.iconst 1, 1) := by decide +kernel
theorem dX5_takeNewName_25 : decode cX5_takeNewName 25 = .ok (.invokevirtual 104, 3) := by decide +kernel
theorem dX5_takeNewName_28 : decode cX5_takeNewName 28 = .ok (.ireturn, 1) := by decide +kernel
theorem dX5_takeNewName_29 : decode cX5_takeNewName 29 = .ok (.aload_n 0, 1) := by decide +kernel
theorem dX5_takeNewName_30 : decode cX5_takeNewName 30 = .ok (.getfield 15, 3) := by decide +kernel
theorem dX5_takeNewName_33 : decode cX5_takeNewName 33 = .ok (.aload_n 0, 1) := by decide +kernel
theorem dX5_takeNewName_34 : decode cX5_takeNewName 34 = .ok (.getfield 9, 3) := by decide +kernel
theorem dX5_takeNewName_37 : decode cX5_takeNewName 37 = .ok (.getfield 111, 3) := by decide +kernel
theorem dX5_takeNewName_40 : decode cX5_takeNewName 40 = .ok (.invokevirtual 115, 3) := by decide +kernel
theorem dX5_takeNewName_43 : decode cX5_takeNewName 43 = .ok (.ifCond .eq 14, 3) := by decide +kernel
theorem dX5_takeNewName_46 : decode cX5_takeNewName 46 = .ok (.aload_n 0, 1) := by decide +kernel
theorem dX5_takeNewName_47 : decode cX5_takeNewName 47 = .ok (.getfield 9, 3) := by decide +kernel
theorem dX5_takeNewName_50 : decode cX5_takeNewName 50 = .ok (.iconst 3, 1) := by decide +kernel
theorem dX5_takeNewName_51 : decode cX5_takeNewName 51 = .ok (.invokevirtual 104, 3) := by decide +kernel
theorem dX5_takeNewName_54 : decode cX5_takeNewName 54 = .ok (.ifCond .eq 7, 3) := by decide +kernel
theorem dX5_takeNewName_57 : decode cX5_takeNewName 57 = .ok (.iconst 1, 1) := by decide +kernel
theorem dX5_takeNewName_58 : decode cX5_takeNewName 58 = .ok (.goto 4, 3) := by decide +kernel
theorem dX5_takeNewName_61 : decode cX5_takeNewName 61 = .ok (.iconst 0, 1) := by decide +kernel
theorem dX5_takeNewName_62 : decode cX5_takeNewName 62 = .ok (.ireturn, 1) := by decide +kernel
theorem dX5_takePerson_0 : decode cX5_takePerson 0 = .ok (.aload_n 0, 1) := by decide +kernel
theorem dX5_takePerson_1 : decode cX5_takePerson 1 = .ok (.getfield 9, 3) := by decide +kernel
theorem dX5_takePerson_4 : decode cX5_takePerson 4 = .ok (.invokevirtual 37, 3) := by decide +kernel
theorem dX5_takePerson_7 : decode cX5_takePerson 7 = .ok (.aload_n 0, 1) := by decide +kernel
theorem dX5_takePerson_8 : decode cX5_takePerson 8 = .ok (.getfield 9, 3) := by decide +kernel
theorem dX5_takePerson_11 : decode cX5_takePerson 11 = .ok (.getfield 60, 3) := by decide +kernel
theorem dX5_takePerson_14 : decode cX5_takePerson 14 = .ok (.getstatic 108, 3) := by decide +kernel
theorem dX5_takePerson_17 : decode cX5_takePerson 17 = .ok (.if_acmp .eq 14, 3) := by decide +kernel
theorem dX5_takePerson_20 : decode cX5_takePerson 20 = .ok (.aload_n 0, 1) := by decide +kernel
theorem dX5_takePerson_21 : decode cX5_takePerson 21 = .ok (.getfield 9, 3) := by decide +kernel
theorem dX5_takePerson_24 : decode cX5_takePerson 24 = .ok (.iconst 1, 1) := by decide +kernel
theorem dX5_takePerson_25 : decode cX5_takePerson 25 = .ok (.invokevirtual 104, 3) := by decide +kernel
theorem dX5_takePerson_28 : decode cX5_takePerson 28 = .ok (.pop, 1) := by decide +kernel
theorem dX5_takePerson_29 : decode cX5_takePerson 29 = .ok (.iconst (-1), 1) := by decide +kernel
theorem dX5_takePerson_30 : decode cX5_takePerson 30 = .ok (.ireturn, 1) := by decide +kernel
theorem dX5_takePerson_31 : decode cX5_takePerson 31 = .ok (.aload_n 0, 1) := by decide +kernel
theorem dX5_takePerson_32 : decode cX5_takePerson 32 = .ok (.getfield 15, 3) := by decide +kernel
theorem dX5_takePerson_35 : decode cX5_takePerson 35 = .ok (.aload_n 0, 1) := by decide +kernel
theorem dX5_takePerson_36 : decode cX5_takePerson 36 = .ok (.getfield 9, 3) := by decide +kernel
theorem dX5_takePerson_39 : decode cX5_takePerson 39 = .ok (.getfield 111, 3) := by decide +kernel
theorem dX5_takePerson_42 : decode cX5_takePerson 42 = .ok (.invokevirtual 119, 3) := by decide +kernel
theorem dX5_takePerson_45 : decode cX5_takePerson 45 = .ok (.istore_n 1, 1) := by decide +kernel
theorem dX5_takePerson_46 : decode cX5_takePerson 46 = .ok (.iload_n 1, 1) := by decide +kernel
theorem dX5_takePerson_47 : decode cX5_takePerson 47 = .ok (.iconst (-1), 1) := by decide +kernel
theorem dX5_takePerson_48 : decode cX5_takePerson 48 = .ok (.if_icmp .ne 12, 3) := by decide +kernel
theorem dX5_takePerson_51 : decode cX5_takePerson 51 = .ok (.aload_n 0, 1) := by decide +kernel
theorem dX5_takePerson_52 : decode cX5_takePerson 52 = .ok (.getfield 9, 3) := by decide +kernel
theorem dX5_takePerson_55 : decode cX5_takePerson 55 = .ok (.iconst 3, 1) := by decide +kernel
theorem dX5_takePerson_56 : decode cX5_takePerson 56 = .ok (.invokevirtual 104, 3) := by decide +kernel
theorem dX5_takePerson_59 : decode cX5_takePerson 59 = .ok (.pop, 1) := by decide +kernel
theorem dX5_takePerson_60 : decode cX5_takePerson 60 = .ok (.iload_n 1, 1) := by decide +kernel
theorem dX5_takePerson_61 : decode cX5_takePerson 61 = .ok (.ireturn, 1) := by decide +kernel
theorem dX5_readPerson_0 : decode cX5_readPerson 0 = .ok (.aload_n 0, 1) := by decide +kernel
theorem dX5_readPerson_1 : decode cX5_readPerson 1 = .ok (.getfield 15, 3) := by decide +kernel
theorem dX5_readPerson_4 : decode cX5_readPerson 4 = .ok (.getfield 123, 3) := by decide +kernel
theorem dX5_readPerson_7 : decode cX5_readPerson 7 = .ok (.istore_n 1, 1) := by decide +kernel
theorem dX5_readPerson_8 : decode cX5_readPerson 8 = .ok (.iload_n 1, 1) := by decide +kernel
theorem dX5_readPerson_9 : decode cX5_readPerson 9 = .ok (.bipush 8, 2) := by decide +kernel
theorem dX5_readPerson_11 : decode cX5_readPerson 11 = .ok (.if_icmp .lt 12, 3) := by decide +kernel
theorem dX5_readPerson_14 : decode cX5_readPerson 14 = .ok (.aload_n 0, 1) := by decide +kernel
theorem dX5_readPerson_15 : decode cX5_readPerson 15 = .ok (.getfield 9, 3) := by decide +kernel
theorem dX5_readPerson_18 : decode cX5_readPerson 18 = .ok (.iconst 4, 1) := by decide +kernel
theorem dX5_readPerson_19 : decode cX5_readPerson 19 = .ok (.invokevirtual 104, 3) := by decide +kernel
theorem dX5_readPerson_22 : decode cX5_readPerson 22 = .ok (.ireturn, 1) := by decide +kernel
theorem dX5_readPerson_23 : decode cX5_readPerson 23 = .ok (.aload_n 0, 1) := by decide +kernel
theorem dX5_readPerson_24 : decode cX5_readPerson 24 = .ok (.invokevirtual 126, 3) := by decide +kernel
theorem dX5_readPerson_27 : decode cX5_readPerson 27 = .ok (.ifCond .ne 5, 3) := by decide +kernel
theorem dX5_readPerson_30 : decode cX5_readPerson 30 = .ok (.iconst 0, 1) := by decide +kernel
theorem dX5_readPerson_31 : decode cX5_readPerson 31 = .ok (.ireturn, 1) := by decide +kernel
theorem dX5_readPerson_32 : decode cX5_readPerson 32 = .ok (.aload_n 0, 1) := by decide +kernel
theorem dX5_readPerson_33 : decode cX5_readPerson 33 = .ok (.getfield 15, 3) := by decide +kernel
theorem dX5_readPerson_36 : decode cX5_readPerson 36 = .ok (.getfield 129, 3) := by decide +kernel
theorem dX5_readPerson_39 : decode cX5_readPerson 39 = .ok (.iload_n 1, 1) := by decide +kernel
theorem dX5_readPerson_40 : decode cX5_readPerson 40 = .ok (.aload_n 0, 1) := by decide +kernel
theorem dX5_readPerson_41 : decode cX5_readPerson 41 = .ok (.getfield 9, 3) := by decide +kernel
theorem dX5_readPerson_44 : decode cX5_readPerson 44 = .ok (.getfield 111, 3) := by decide +kernel
theorem dX5_readPerson_47 : decode cX5_readPerson 47 = .ok (.lastore, 1) := by decide +kernel
theorem dX5_readPerson_48 : decode cX5_readPerson 48 = .ok (.aload_n 0, 1) := by decide +kernel
theorem dX5_readPerson_49 : decode cX5_readPerson 49 = .ok (.getfield 9, 3) := by decide +kernel
theorem dX5_readPerson_52 : decode cX5_readPerson 52 = .ok (.iconst 0, 1) := by decide +kernel
theorem dX5_readPerson_53 : decode cX5_readPerson 53 = .ok (.bipush 23, 2) := by decide +kernel
theorem dX5_readPerson_55 : decode cX5_readPerson 55 = .ok (.invokevirtual 133, 3) := by decide +kernel
theorem dX5_readPerson_58 : decode cX5_readPerson 58 = .ok (.ifCond .ne 5, 3) := by decide +kernel
theorem dX5_readPerson_61 : decode cX5_readPerson 61 = .ok (.iconst 0, 1) := by decide +kernel
theorem dX5_readPerson_62 : decode cX5_readPerson 62 = .ok (.ireturn, 1) := by decide +kernel
theorem dX5_readPerson_63 : decode cX5_readPerson 63 = .ok (.aload_n 0, 1) := by decide +kernel
theorem dX5_readPerson_64 : decode cX5_readPerson 64 = .ok (.getfield 15, 3) := by decide +kernel
theorem dX5_readPerson_67 : decode cX5_readPerson 67 = .ok (.getfield 137, 3) := by decide +kernel
theorem dX5_readPerson_70 : decode cX5_readPerson 70 = .ok (.iload_n 1, 1) := by decide +kernel
theorem dX5_readPerson_71 : decode cX5_readPerson 71 = .ok (.aload_n 0, 1) := by decide +kernel
theorem dX5_readPerson_72 : decode cX5_readPerson 72 = .ok (.getfield 9, 3) := by decide +kernel
theorem dX5_readPerson_75 : decode cX5_readPerson 75 = .ok (.getfield 140, 3) := by decide +kernel
theorem dX5_readPerson_78 : decode cX5_readPerson 78 = .ok (.iastore, 1) := by decide +kernel
theorem dX5_readPerson_79 : decode cX5_readPerson 79 = .ok (.aload_n 0, 1) := by decide +kernel
theorem dX5_readPerson_80 : decode cX5_readPerson 80 = .ok (.getfield 9, 3) := by decide +kernel
theorem dX5_readPerson_83 : decode cX5_readPerson 83 = .ok (.iconst 0, 1) := by decide +kernel
theorem dX5_readPerson_84 : decode cX5_readPerson 84 = .ok (.bipush 23, 2) := by decide +kernel
theorem dX5_readPerson_86 : decode cX5_readPerson 86 = .ok (.invokevirtual 133, 3) := by decide +kernel
theorem dX5_readPerson_89 : decode cX5_readPerson 89 = .ok (.ifCond .ne 5, 3) := by decide +kernel
theorem dX5_readPerson_92 : decode cX5_readPerson 92 = .ok (.iconst 0, 1) := by decide +kernel
theorem dX5_readPerson_93 : decode cX5_readPerson 93 = .ok (.ireturn, 1) := by decide +kernel
theorem dX5_readPerson_94 : decode cX5_readPerson 94 = .ok (.aload_n 0, 1) := by decide +kernel
theorem dX5_readPerson_95 : decode cX5_readPerson 95 = .ok (.getfield 15, 3) := by decide +kernel
theorem dX5_readPerson_98 : decode cX5_readPerson 98 = .ok (.getfield 143, 3) := by decide +kernel
theorem dX5_readPerson_101 : decode cX5_readPerson 101 = .ok (.iload_n 1, 1) := by decide +kernel
theorem dX5_readPerson_102 : decode cX5_readPerson 102 = .ok (.aload_n 0, 1) := by decide +kernel
theorem dX5_readPerson_103 : decode cX5_readPerson 103 = .ok (.getfield 9, 3) := by decide +kernel
theorem dX5_readPerson_106 : decode cX5_readPerson 106 = .ok (.getfield 140, 3) := by decide +kernel
theorem dX5_readPerson_109 : decode cX5_readPerson 109 = .ok (.iastore, 1) := by decide +kernel
theorem dX5_readPerson_110 : decode cX5_readPerson 110 = .ok (.aload_n 0, 1) := by decide +kernel
theorem dX5_readPerson_111 : decode cX5_readPerson 111 = .ok (.getfield 9, 3) := by decide +kernel
theorem dX5_readPerson_114 : decode cX5_readPerson 114 = .ok (.iconst 0, 1) := by decide +kernel
theorem dX5_readPerson_115 : decode cX5_readPerson 115 = .ok (.bipush 99, 2) := by decide +kernel
theorem dX5_readPerson_117 : decode cX5_readPerson 117 = .ok (.invokevirtual 133, 3) := by decide +kernel
theorem dX5_readPerson_120 : decode cX5_readPerson 120 = .ok (.ifCond .ne 5, 3) := by decide +kernel
theorem dX5_readPerson_123 : decode cX5_readPerson 123 = .ok (.iconst 0, 1) := by decide +kernel
theorem dX5_readPerson_124 : decode cX5_readPerson 124 = .ok (.ireturn, 1) := by decide +kernel
theorem dX5_readPerson_125 : decode cX5_readPerson 125 = .ok (.aload_n 0, 1) := by decide +kernel
theorem dX5_readPerson_126 : decode cX5_readPerson 126 = .ok (.getfield 15, 3) := by decide +kernel
theorem dX5_readPerson_129 : decode cX5_readPerson 129 = .ok (.getfield 146, 3) := by decide +kernel
theorem dX5_readPerson_132 : decode cX5_readPerson 132 = .ok (.iload_n 1, 1) := by decide +kernel
theorem dX5_readPerson_133 : decode cX5_readPerson 133 = .ok (.aload_n 0, 1) := by decide +kernel
theorem dX5_readPerson_134 : decode cX5_readPerson 134 = .ok (.getfield 9, 3) := by decide +kernel
theorem dX5_readPerson_137 : decode cX5_readPerson 137 = .ok (.getfield 140, 3) := by decide +kernel
theorem dX5_readPerson_140 : decode cX5_readPerson 140 = .ok (.iastore, 1) := by decide +kernel
theorem dX5_readPerson_141 : decode cX5_readPerson 141 = .ok (.aload_n 0, 1) := by decide +kernel
theorem dX5_readPerson_142 : decode cX5_readPerson 142 = .ok (.getfield 15, 3) := by decide +kernel
theorem dX5_readPerson_145 : decode cX5_readPerson 145 = .ok (.getfield 73, 3) := by decide +kernel
theorem dX5_readPerson_148 : decode cX5_readPerson 148 = .ok (.iload_n 1, 1) := by decide +kernel
theorem dX5_readPerson_149 : decode cX5_readPerson 149 = .ok (.iconst 0, 1) := by decide +kernel
theorem dX5_readPerson_150 : decode cX5_readPerson 150 = .ok (.iastore, 1) := by decide +kernel
theorem dX5_readPerson_151 : decode cX5_readPerson 151 = .ok (.aload_n 0, 1) := by decide +kernel
theorem dX5_readPerson_152 : decode cX5_readPerson 152 = .ok (.getfield 15, 3) := by decide +kernel
theorem dX5_readPerson_155 : decode cX5_readPerson 155 = .ok (.getfield 80, 3) := by decide +kernel
theorem dX5_readPerson_158 : decode cX5_readPerson 158 = .ok (.iload_n 1, 1) := by decide +kernel
theorem dX5_readPerson_159 : decode cX5_readPerson 159 = .ok (.iconst 0, 1) := by decide +kernel
theorem dX5_readPerson_160 : decode cX5_readPerson 160 = .ok (.iastore, 1) := by decide +kernel
theorem dX5_readPerson_161 : decode cX5_readPerson 161 = .ok (.aload_n 0, 1) := by decide +kernel
theorem dX5_readPerson_162 : decode cX5_readPerson 162 = .ok (.getfield 15, 3) := by decide +kernel
theorem dX5_readPerson_165 : decode cX5_readPerson 165 = .ok (.dup, 1) := by decide +kernel
theorem dX5_readPerson_166 : decode cX5_readPerson 166 = .ok (.getfield 123, 3) := by decide +kernel
theorem dX5_readPerson_169 : decode cX5_readPerson 169 = .ok (.iconst 1, 1) := by decide +kernel
theorem dX5_readPerson_170 : decode cX5_readPerson 170 = .ok (.iadd, 1) := by decide +kernel
theorem dX5_readPerson_171 : decode cX5_readPerson 171 = .ok (.putfield 123, 3) := by decide +kernel
theorem dX5_readPerson_174 : decode cX5_readPerson 174 = .ok (.iconst 1, 1) := by decide +kernel
theorem dX5_readPerson_175 : decode cX5_readPerson 175 = .ok (.ireturn, 1) := by decide +kernel
theorem dX5_readWarmth_0 : decode cX5_readWarmth 0 = .ok (.aload_n 0, 1) := by decide +kernel
theorem dX5_readWarmth_1 : decode cX5_readWarmth 1 = .ok (.invokevirtual 149, 3) := by decide +kernel
theorem dX5_readWarmth_4 : decode cX5_readWarmth 4 = .ok (.istore_n 2, 1) := by decide +kernel
theorem dX5_readWarmth_5 : decode cX5_readWarmth 5 = .ok (.iload_n 2, 1) := by decide +kernel
theorem dX5_readWarmth_6 : decode cX5_readWarmth 6 = .ok (.iconst (-1), 1) := by decide +kernel
theorem dX5_readWarmth_7 : decode cX5_readWarmth 7 = .ok (.if_icmp .ne 5, 3) := by decide +kernel
theorem dX5_readWarmth_10 : decode cX5_readWarmth 10 = .ok (.iconst 0, 1) := by decide +kernel
theorem dX5_readWarmth_11 : decode cX5_readWarmth 11 = .ok (.ireturn, 1) := by decide +kernel
theorem dX5_readWarmth_12 : decode cX5_readWarmth 12 = .ok (.aload_n 1, 1) := by decide +kernel
theorem dX5_readWarmth_13 : decode cX5_readWarmth 13 = .ok (.iload_n 2, 1) := by decide +kernel
theorem dX5_readWarmth_14 : decode cX5_readWarmth 14 = .ok (.iaload, 1) := by decide +kernel
theorem dX5_readWarmth_15 : decode cX5_readWarmth 15 = .ok (.ifCond .eq 12, 3) := by decide +kernel
theorem dX5_readWarmth_18 : decode cX5_readWarmth 18 = .ok (.aload_n 0, 1) := by decide +kernel
theorem dX5_readWarmth_19 : decode cX5_readWarmth 19 = .ok (.getfield 9, 3) := by decide +kernel
theorem dX5_readWarmth_22 : decode cX5_readWarmth 22 = .ok (.iconst 3, 1) := by decide +kernel
theorem dX5_readWarmth_23 : decode cX5_readWarmth 23 = .ok (.invokevirtual 104, 3) := by decide +kernel
theorem dX5_readWarmth_26 : decode cX5_readWarmth 26 = .ok (.ireturn, 1) := by decide +kernel
theorem dX5_readWarmth_27 : decode cX5_readWarmth 27 = .ok (.aload_n 0, 1) := by decide +kernel
theorem dX5_readWarmth_28 : decode cX5_readWarmth 28 = .ok (.getfield 9, 3) := by decide +kernel
theorem dX5_readWarmth_31 : decode cX5_readWarmth 31 = .ok (.iconst 1, 1) := by decide +kernel
theorem dX5_readWarmth_32 : decode cX5_readWarmth 32 = .ok (.bipush 9, 2) := by decide +kernel
theorem dX5_readWarmth_34 : decode cX5_readWarmth 34 = .ok (.invokevirtual 133, 3) := by decide +kernel
theorem dX5_readWarmth_37 : decode cX5_readWarmth 37 = .ok (.ifCond .ne 5, 3) := by decide +kernel
theorem dX5_readWarmth_40 : decode cX5_readWarmth 40 = .ok (.iconst 0, 1) := by decide +kernel
theorem dX5_readWarmth_41 : decode cX5_readWarmth 41 = .ok (.ireturn, 1) := by decide +kernel
theorem dX5_readWarmth_42 : decode cX5_readWarmth 42 = .ok (.aload_n 1, 1) := by decide +kernel
theorem dX5_readWarmth_43 : decode cX5_readWarmth 43 = .ok (.iload_n 2, 1) := by decide +kernel
theorem dX5_readWarmth_44 : decode cX5_readWarmth 44 = .ok (.aload_n 0, 1) := by decide +kernel
theorem dX5_readWarmth_45 : decode cX5_readWarmth 45 = .ok (.getfield 9, 3) := by decide +kernel
theorem dX5_readWarmth_48 : decode cX5_readWarmth 48 = .ok (.getfield 140, 3) := by decide +kernel
theorem dX5_readWarmth_51 : decode cX5_readWarmth 51 = .ok (.iastore, 1) := by decide +kernel
theorem dX5_readWarmth_52 : decode cX5_readWarmth 52 = .ok (.iconst 1, 1) := by decide +kernel
theorem dX5_readWarmth_53 : decode cX5_readWarmth 53 = .ok (.ireturn, 1) := by decide +kernel
theorem dX5_readGlass_0 : decode cX5_readGlass 0 = .ok (.aload_n 0, 1) := by decide +kernel
theorem dX5_readGlass_1 : decode cX5_readGlass 1 = .ok (.getfield 15, 3) := by decide +kernel
theorem dX5_readGlass_4 : decode cX5_readGlass 4 = .ok (.getfield 152, 3) := by decide +kernel
theorem dX5_readGlass_7 : decode cX5_readGlass 7 = .ok (.istore_n 1, 1) := by decide +kernel
theorem dX5_readGlass_8 : decode cX5_readGlass 8 = .ok (.iload_n 1, 1) := by decide +kernel
theorem dX5_readGlass_9 : decode cX5_readGlass 9 = .ok (.iconst 4, 1) := by decide +kernel
theorem dX5_readGlass_10 : decode cX5_readGlass 10 = .ok (.if_icmp .lt 12, 3) := by decide +kernel
theorem dX5_readGlass_13 : decode cX5_readGlass 13 = .ok (.aload_n 0, 1) := by decide +kernel
theorem dX5_readGlass_14 : decode cX5_readGlass 14 = .ok (.getfield 9, 3) := by decide +kernel
theorem dX5_readGlass_17 : decode cX5_readGlass 17 = .ok (.iconst 4, 1) := by decide +kernel
theorem dX5_readGlass_18 : decode cX5_readGlass 18 = .ok (.invokevirtual 104, 3) := by decide +kernel
theorem dX5_readGlass_21 : decode cX5_readGlass 21 = .ok (.ireturn, 1) := by decide +kernel
theorem dX5_readGlass_22 : decode cX5_readGlass 22 = .ok (.aload_n 0, 1) := by decide +kernel
theorem dX5_readGlass_23 : decode cX5_readGlass 23 = .ok (.invokevirtual 126, 3) := by decide +kernel
theorem dX5_readGlass_26 : decode cX5_readGlass 26 = .ok (.ifCond .ne 5, 3) := by decide +kernel
theorem dX5_readGlass_29 : decode cX5_readGlass 29 = .ok (.iconst 0, 1) := by decide +kernel
theorem dX5_readGlass_30 : decode cX5_readGlass 30 = .ok (.ireturn, 1) := by decide +kernel
theorem dX5_readGlass_31 : decode cX5_readGlass 31 = .ok (.aload_n 0, 1) := by decide +kernel
theorem dX5_readGlass_32 : decode cX5_readGlass 32 = .ok (.getfield 15, 3) := by decide +kernel
theorem dX5_readGlass_35 : decode cX5_readGlass 35 = .ok (.getfield 155, 3) := by decide +kernel
theorem dX5_readGlass_38 : decode cX5_readGlass 38 = .ok (.iload_n 1, 1) := by decide +kernel
theorem dX5_readGlass_39 : decode cX5_readGlass 39 = .ok (.aload_n 0, 1) := by decide +kernel
theorem dX5_readGlass_40 : decode cX5_readGlass 40 = .ok (.getfield 9, 3) := by decide +kernel
theorem dX5_readGlass_43 : decode cX5_readGlass 43 = .ok (.getfield 111, 3) := by decide +kernel
theorem dX5_readGlass_46 : decode cX5_readGlass 46 = .ok (.lastore, 1) := by decide +kernel
theorem dX5_readGlass_47 : decode cX5_readGlass 47 = .ok (.aload_n 0, 1) := by decide +kernel
theorem dX5_readGlass_48 : decode cX5_readGlass 48 = .ok (.iload_n 1, 1) := by decide +kernel
theorem dX5_readGlass_49 : decode cX5_readGlass 49 = .ok (.invokevirtual 158, 3) := by decide +kernel
theorem dX5_readGlass_52 : decode cX5_readGlass 52 = .ok (.ifCond .eq 17, 3) := by decide +kernel
theorem dX5_readGlass_55 : decode cX5_readGlass 55 = .ok (.aload_n 0, 1) := by decide +kernel
theorem dX5_readGlass_56 : decode cX5_readGlass 56 = .ok (.getfield 9, 3) := by decide +kernel
theorem dX5_readGlass_59 : decode cX5_readGlass 59 = .ok (.iconst 1, 1) := by decide +kernel
theorem dX5_readGlass_60 : decode cX5_readGlass 60 = .ok (.sipush 250, 3) := by decide +kernel
theorem dX5_readGlass_63 : decode cX5_readGlass 63 = .ok (.invokevirtual 133, 3) := by decide +kernel
theorem dX5_readGlass_66 : decode cX5_readGlass 66 = .ok (.ifCond .ne 5, 3) := by decide +kernel
theorem dX5_readGlass_69 : decode cX5_readGlass 69 = .ok (.iconst 0, 1) := by decide +kernel
theorem dX5_readGlass_70 : decode cX5_readGlass 70 = .ok (.ireturn, 1) := by decide +kernel
theorem dX5_readGlass_71 : decode cX5_readGlass 71 = .ok (.aload_n 0, 1) := by decide +kernel
theorem dX5_readGlass_72 : decode cX5_readGlass 72 = .ok (.getfield 15, 3) := by decide +kernel
theorem dX5_readGlass_75 : decode cX5_readGlass 75 = .ok (.getfield 161, 3) := by decide +kernel
theorem dX5_readGlass_78 : decode cX5_readGlass 78 = .ok (.iload_n 1, 1) := by decide +kernel
theorem dX5_readGlass_79 : decode cX5_readGlass 79 = .ok (.aload_n 0, 1) := by decide +kernel
theorem dX5_readGlass_80 : decode cX5_readGlass 80 = .ok (.getfield 9, 3) := by decide +kernel
theorem dX5_readGlass_83 : decode cX5_readGlass 83 = .ok (.getfield 140, 3) := by decide +kernel
theorem dX5_readGlass_86 : decode cX5_readGlass 86 = .ok (.iastore, 1) := by decide +kernel
theorem dX5_readGlass_87 : decode cX5_readGlass 87 = .ok (.aload_n 0, 1) := by decide +kernel
theorem dX5_readGlass_88 : decode cX5_readGlass 88 = .ok (.getfield 9, 3) := by decide +kernel
theorem dX5_readGlass_91 : decode cX5_readGlass 91 = .ok (.iconst 1, 1) := by decide +kernel
theorem dX5_readGlass_92 : decode cX5_readGlass 92 = .ok (.bipush 9, 2) := by decide +kernel
theorem dX5_readGlass_94 : decode cX5_readGlass 94 = .ok (.invokevirtual 133, 3) := by decide +kernel
theorem dX5_readGlass_97 : decode cX5_readGlass 97 = .ok (.ifCond .ne 5, 3) := by decide +kernel
theorem dX5_readGlass_100 : decode cX5_readGlass 100 = .ok (.iconst 0, 1) := by decide +kernel
theorem dX5_readGlass_101 : decode cX5_readGlass 101 = .ok (.ireturn, 1) := by decide +kernel
theorem dX5_readGlass_102 : decode cX5_readGlass 102 = .ok (.aload_n 0, 1) := by decide +kernel
theorem dX5_readGlass_103 : decode cX5_readGlass 103 = .ok (.getfield 15, 3) := by decide +kernel
theorem dX5_readGlass_106 : decode cX5_readGlass 106 = .ok (.getfield 164, 3) := by decide +kernel
theorem dX5_readGlass_109 : decode cX5_readGlass 109 = .ok (.iload_n 1, 1) := by decide +kernel
theorem dX5_readGlass_110 : decode cX5_readGlass 110 = .ok (.aload_n 0, 1) := by decide +kernel
theorem dX5_readGlass_111 : decode cX5_readGlass 111 = .ok (.getfield 9, 3) := by decide +kernel
theorem dX5_readGlass_114 : decode cX5_readGlass 114 = .ok (.getfield 140, 3) := by decide +kernel
theorem dX5_readGlass_117 : decode cX5_readGlass 117 = .ok (.iastore, 1) := by decide +kernel
theorem dX5_readGlass_118 : decode cX5_readGlass 118 = .ok (.aload_n 0, 1) := by decide +kernel
theorem dX5_readGlass_119 : decode cX5_readGlass 119 = .ok (.getfield 15, 3) := by decide +kernel
theorem dX5_readGlass_122 : decode cX5_readGlass 122 = .ok (.dup, 1) := by decide +kernel
theorem dX5_readGlass_123 : decode cX5_readGlass 123 = .ok (.getfield 152, 3) := by decide +kernel
theorem dX5_readGlass_126 : decode cX5_readGlass 126 = .ok (.iconst 1, 1) := by decide +kernel
theorem dX5_readGlass_127 : decode cX5_readGlass 127 = .ok (.iadd, 1) := by decide +kernel
theorem dX5_readGlass_128 : decode cX5_readGlass 128 = .ok (.putfield 152, 3) := by decide +kernel
theorem dX5_readGlass_131 : decode cX5_readGlass 131 = .ok (.iconst 1, 1) := by decide +kernel
theorem dX5_readGlass_132 : decode cX5_readGlass 132 = .ok (.ireturn, 1) := by decide +kernel
theorem dX5_readPair_0 : decode cX5_readPair 0 = .ok (.aload_n 0, 1) := by decide +kernel
theorem dX5_readPair_1 : decode cX5_readPair 1 = .ok (.invokevirtual 149, 3) := by decide +kernel
theorem dX5_readPair_4 : decode cX5_readPair 4 = .ok (.istore_n 2, 1) := by decide +kernel
theorem dX5_readPair_5 : decode cX5_readPair 5 = .ok (.iload_n 2, 1) := by decide +kernel
theorem dX5_readPair_6 : decode cX5_readPair 6 = .ok (.iconst (-1), 1) := by decide +kernel
theorem dX5_readPair_7 : decode cX5_readPair 7 = .ok (.if_icmp .ne 5, 3) := by decide +kernel
theorem dX5_readPair_10 : decode cX5_readPair 10 = .ok (.iconst 0, 1) := by decide +kernel
theorem dX5_readPair_11 : decode cX5_readPair 11 = .ok (.ireturn, 1) := by decide +kernel
theorem dX5_readPair_12 : decode cX5_readPair 12 = .ok (.aload_n 0, 1) := by decide +kernel
theorem dX5_readPair_13 : decode cX5_readPair 13 = .ok (.getfield 15, 3) := by decide +kernel
theorem dX5_readPair_16 : decode cX5_readPair 16 = .ok (.iload_n 2, 1) := by decide +kernel
theorem dX5_readPair_17 : decode cX5_readPair 17 = .ok (.invokevirtual 167, 3) := by decide +kernel
theorem dX5_readPair_20 : decode cX5_readPair 20 = .ok (.iconst (-1), 1) := by decide +kernel
theorem dX5_readPair_21 : decode cX5_readPair 21 = .ok (.if_icmp .eq 12, 3) := by decide +kernel
theorem dX5_readPair_24 : decode cX5_readPair 24 = .ok (.aload_n 0, 1) := by decide +kernel
theorem dX5_readPair_25 : decode cX5_readPair 25 = .ok (.getfield 9, 3) := by decide +kernel
theorem dX5_readPair_28 : decode cX5_readPair 28 = .ok (.iconst 3, 1) := by decide +kernel
theorem dX5_readPair_29 : decode cX5_readPair 29 = .ok (.invokevirtual 104, 3) := by decide +kernel
theorem dX5_readPair_32 : decode cX5_readPair 32 = .ok (.ireturn, 1) := by decide +kernel
theorem dX5_readPair_33 : decode cX5_readPair 33 = .ok (.aload_n 0, 1) := by decide +kernel
theorem dX5_readPair_34 : decode cX5_readPair 34 = .ok (.invokevirtual 149, 3) := by decide +kernel
theorem dX5_readPair_37 : decode cX5_readPair 37 = .ok (.istore_n 3, 1) := by decide +kernel
theorem dX5_readPair_38 : decode cX5_readPair 38 = .ok (.iload_n 3, 1) := by decide +kernel
theorem dX5_readPair_39 : decode cX5_readPair 39 = .ok (.iconst (-1), 1) := by decide +kernel
theorem dX5_readPair_40 : decode cX5_readPair 40 = .ok (.if_icmp .ne 5, 3) := by decide +kernel
theorem dX5_readPair_43 : decode cX5_readPair 43 = .ok (.iconst 0, 1) := by decide +kernel
theorem dX5_readPair_44 : decode cX5_readPair 44 = .ok (.ireturn, 1) := by decide +kernel
theorem dX5_readPair_45 : decode cX5_readPair 45 = .ok (.iload_n 3, 1) := by decide +kernel
theorem dX5_readPair_46 : decode cX5_readPair 46 = .ok (.iload_n 2, 1) := by decide +kernel
theorem dX5_readPair_47 : decode cX5_readPair 47 = .ok (.if_icmp .eq 15, 3) := by decide +kernel
theorem dX5_readPair_50 : decode cX5_readPair 50 = .ok (.aload_n 0, 1) := by decide +kernel
theorem dX5_readPair_51 : decode cX5_readPair 51 = .ok (.getfield 15, 3) := by decide +kernel
theorem dX5_readPair_54 : decode cX5_readPair 54 = .ok (.iload_n 3, 1) := by decide +kernel
theorem dX5_readPair_55 : decode cX5_readPair 55 = .ok (.invokevirtual 167, 3) := by decide +kernel
theorem dX5_readPair_58 : decode cX5_readPair 58 = .ok (.iconst (-1), 1) := by decide +kernel
theorem dX5_readPair_59 : decode cX5_readPair 59 = .ok (.if_icmp .eq 12, 3) := by decide +kernel
theorem dX5_readPair_62 : decode cX5_readPair 62 = .ok (.aload_n 0, 1) := by decide +kernel
theorem dX5_readPair_63 : decode cX5_readPair 63 = .ok (.getfield 9, 3) := by decide +kernel
theorem dX5_readPair_66 : decode cX5_readPair 66 = .ok (.iconst 3, 1) := by decide +kernel
theorem dX5_readPair_67 : decode cX5_readPair 67 = .ok (.invokevirtual 104, 3) := by decide +kernel
theorem dX5_readPair_70 : decode cX5_readPair 70 = .ok (.ireturn, 1) := by decide +kernel
theorem dX5_readPair_71 : decode cX5_readPair 71 = .ok (.aload_n 0, 1) := by decide +kernel
theorem dX5_readPair_72 : decode cX5_readPair 72 = .ok (.getfield 15, 3) := by decide +kernel
theorem dX5_readPair_75 : decode cX5_readPair 75 = .ok (.getfield 171, 3) := by decide +kernel
theorem dX5_readPair_78 : decode cX5_readPair 78 = .ok (.iload_n 1, 1) := by decide +kernel
theorem dX5_readPair_79 : decode cX5_readPair 79 = .ok (.iload_n 2, 1) := by decide +kernel
theorem dX5_readPair_80 : decode cX5_readPair 80 = .ok (.iastore, 1) := by decide +kernel
theorem dX5_readPair_81 : decode cX5_readPair 81 = .ok (.aload_n 0, 1) := by decide +kernel
theorem dX5_readPair_82 : decode cX5_readPair 82 = .ok (.getfield 15, 3) := by decide +kernel
theorem dX5_readPair_85 : decode cX5_readPair 85 = .ok (.getfield 174, 3) := by decide +kernel
theorem dX5_readPair_88 : decode cX5_readPair 88 = .ok (.iload_n 1, 1) := by decide +kernel
theorem dX5_readPair_89 : decode cX5_readPair 89 = .ok (.iload_n 3, 1) := by decide +kernel
theorem dX5_readPair_90 : decode cX5_readPair 90 = .ok (.iastore, 1) := by decide +kernel
theorem dX5_readPair_91 : decode cX5_readPair 91 = .ok (.iconst 1, 1) := by decide +kernel
theorem dX5_readPair_92 : decode cX5_readPair 92 = .ok (.ireturn, 1) := by decide +kernel
theorem dX5_readDamp_0 : decode cX5_readDamp 0 = .ok (.aload_n 0, 1) := by decide +kernel
theorem dX5_readDamp_1 : decode cX5_readDamp 1 = .ok (.getfield 15, 3) := by decide +kernel
theorem dX5_readDamp_4 : decode cX5_readDamp 4 = .ok (.getfield 177, 3) := by decide +kernel
theorem dX5_readDamp_7 : decode cX5_readDamp 7 = .ok (.bipush 6, 2) := by decide +kernel
theorem dX5_readDamp_9 : decode cX5_readDamp 9 = .ok (.if_icmp .lt 12, 3) := by decide +kernel
theorem dX5_readDamp_12 : decode cX5_readDamp 12 = .ok (.aload_n 0, 1) := by decide +kernel
theorem dX5_readDamp_13 : decode cX5_readDamp 13 = .ok (.getfield 9, 3) := by decide +kernel
theorem dX5_readDamp_16 : decode cX5_readDamp 16 = .ok (.iconst 4, 1) := by decide +kernel
theorem dX5_readDamp_17 : decode cX5_readDamp 17 = .ok (.invokevirtual 104, 3) := by decide +kernel
theorem dX5_readDamp_20 : decode cX5_readDamp 20 = .ok (.ireturn, 1) := by decide +kernel
theorem dX5_readDamp_21 : decode cX5_readDamp 21 = .ok (.aload_n 0, 1) := by decide +kernel
theorem dX5_readDamp_22 : decode cX5_readDamp 22 = .ok (.getfield 9, 3) := by decide +kernel
theorem dX5_readDamp_25 : decode cX5_readDamp 25 = .ok (.iconst 0, 1) := by decide +kernel
theorem dX5_readDamp_26 : decode cX5_readDamp 26 = .ok (.sipush 599, 3) := by decide +kernel
theorem dX5_readDamp_29 : decode cX5_readDamp 29 = .ok (.invokevirtual 133, 3) := by decide +kernel
theorem dX5_readDamp_32 : decode cX5_readDamp 32 = .ok (.ifCond .ne 5, 3) := by decide +kernel
theorem dX5_readDamp_35 : decode cX5_readDamp 35 = .ok (.iconst 0, 1) := by decide +kernel
theorem dX5_readDamp_36 : decode cX5_readDamp 36 = .ok (.ireturn, 1) := by decide +kernel
theorem dX5_readDamp_37 : decode cX5_readDamp 37 = .ok (.aload_n 0, 1) := by decide +kernel
theorem dX5_readDamp_38 : decode cX5_readDamp 38 = .ok (.getfield 9, 3) := by decide +kernel
theorem dX5_readDamp_41 : decode cX5_readDamp 41 = .ok (.getfield 140, 3) := by decide +kernel
theorem dX5_readDamp_44 : decode cX5_readDamp 44 = .ok (.istore_n 1, 1) := by decide +kernel
theorem dX5_readDamp_45 : decode cX5_readDamp 45 = .ok (.aload_n 0, 1) := by decide +kernel
theorem dX5_readDamp_46 : decode cX5_readDamp 46 = .ok (.getfield 9, 3) := by decide +kernel
theorem dX5_readDamp_49 : decode cX5_readDamp 49 = .ok (.iload_n 1, 1) := by decide +kernel
theorem dX5_readDamp_50 : decode cX5_readDamp 50 = .ok (.sipush 599, 3) := by decide +kernel
theorem dX5_readDamp_53 : decode cX5_readDamp 53 = .ok (.invokevirtual 133, 3) := by decide +kernel
theorem dX5_readDamp_56 : decode cX5_readDamp 56 = .ok (.ifCond .ne 5, 3) := by decide +kernel
theorem dX5_readDamp_59 : decode cX5_readDamp 59 = .ok (.iconst 0, 1) := by decide +kernel
theorem dX5_readDamp_60 : decode cX5_readDamp 60 = .ok (.ireturn, 1) := by decide +kernel
theorem dX5_readDamp_61 : decode cX5_readDamp 61 = .ok (.aload_n 0, 1) := by decide +kernel
theorem dX5_readDamp_62 : decode cX5_readDamp 62 = .ok (.getfield 15, 3) := by decide +kernel
theorem dX5_readDamp_65 : decode cX5_readDamp 65 = .ok (.getfield 180, 3) := by decide +kernel
theorem dX5_readDamp_68 : decode cX5_readDamp 68 = .ok (.iconst 2, 1) := by decide +kernel
theorem dX5_readDamp_69 : decode cX5_readDamp 69 = .ok (.aload_n 0, 1) := by decide +kernel
theorem dX5_readDamp_70 : decode cX5_readDamp 70 = .ok (.getfield 15, 3) := by decide +kernel
theorem dX5_readDamp_73 : decode cX5_readDamp 73 = .ok (.getfield 177, 3) := by decide +kernel
theorem dX5_readDamp_76 : decode cX5_readDamp 76 = .ok (.imul, 1) := by decide +kernel
theorem dX5_readDamp_77 : decode cX5_readDamp 77 = .ok (.iload_n 1, 1) := by decide +kernel
theorem dX5_readDamp_78 : decode cX5_readDamp 78 = .ok (.iastore, 1) := by decide +kernel
theorem dX5_readDamp_79 : decode cX5_readDamp 79 = .ok (.aload_n 0, 1) := by decide +kernel
theorem dX5_readDamp_80 : decode cX5_readDamp 80 = .ok (.getfield 15, 3) := by decide +kernel
theorem dX5_readDamp_83 : decode cX5_readDamp 83 = .ok (.getfield 180, 3) := by decide +kernel
theorem dX5_readDamp_86 : decode cX5_readDamp 86 = .ok (.iconst 2, 1) := by decide +kernel
theorem dX5_readDamp_87 : decode cX5_readDamp 87 = .ok (.aload_n 0, 1) := by decide +kernel
theorem dX5_readDamp_88 : decode cX5_readDamp 88 = .ok (.getfield 15, 3) := by decide +kernel
theorem dX5_readDamp_91 : decode cX5_readDamp 91 = .ok (.getfield 177, 3) := by decide +kernel
theorem dX5_readDamp_94 : decode cX5_readDamp 94 = .ok (.imul, 1) := by decide +kernel
theorem dX5_readDamp_95 : decode cX5_readDamp 95 = .ok (.iconst 1, 1) := by decide +kernel
theorem dX5_readDamp_96 : decode cX5_readDamp 96 = .ok (.iadd, 1) := by decide +kernel
theorem dX5_readDamp_97 : decode cX5_readDamp 97 = .ok (.aload_n 0, 1) := by decide +kernel
theorem dX5_readDamp_98 : decode cX5_readDamp 98 = .ok (.getfield 9, 3) := by decide +kernel
theorem dX5_readDamp_101 : decode cX5_readDamp 101 = .ok (.getfield 140, 3) := by decide +kernel
theorem dX5_readDamp_104 : decode cX5_readDamp 104 = .ok (.iastore, 1) := by decide +kernel
theorem dX5_readDamp_105 : decode cX5_readDamp 105 = .ok (.aload_n 0, 1) := by decide +kernel
theorem dX5_readDamp_106 : decode cX5_readDamp 106 = .ok (.getfield 15, 3) := by decide +kernel
theorem dX5_readDamp_109 : decode cX5_readDamp 109 = .ok (.dup, 1) := by decide +kernel
theorem dX5_readDamp_110 : decode cX5_readDamp 110 = .ok (.getfield 177, 3) := by decide +kernel
theorem dX5_readDamp_113 : decode cX5_readDamp 113 = .ok (.iconst 1, 1) := by decide +kernel
theorem dX5_readDamp_114 : decode cX5_readDamp 114 = .ok (.iadd, 1) := by decide +kernel
theorem dX5_readDamp_115 : decode cX5_readDamp 115 = .ok (.putfield 177, 3) := by decide +kernel
theorem dX5_readDamp_118 : decode cX5_readDamp 118 = .ok (.iconst 1, 1) := by decide +kernel
theorem dX5_readDamp_119 : decode cX5_readDamp 119 = .ok (.ireturn, 1) := by decide +kernel
theorem dX5_readGood_0 : decode cX5_readGood 0 = .ok (.aload_n 0, 1) := by decide +kernel
theorem dX5_readGood_1 : decode cX5_readGood 1 = .ok (.getfield 15, 3) := by decide +kernel
theorem dX5_readGood_4 : decode cX5_readGood 4 = .ok (.getfield 183, 3) := by decide +kernel
theorem dX5_readGood_7 : decode cX5_readGood 7 = .ok (.getfield 187, 3) := by decide +kernel
theorem dX5_readGood_10 : decode cX5_readGood 10 = .ok (.istore_n 1, 1) := by decide +kernel
theorem dX5_readGood_11 : decode cX5_readGood 11 = .ok (.iload_n 1, 1) := by decide +kernel
theorem dX5_readGood_12 : decode cX5_readGood 12 = .ok (.bipush 6, 2) := by decide +kernel
theorem dX5_readGood_14 : decode cX5_readGood 14 = .ok (.if_icmp .lt 12, 3) := by decide +kernel
theorem dX5_readGood_17 : decode cX5_readGood 17 = .ok (.aload_n 0, 1) := by decide +kernel
theorem dX5_readGood_18 : decode cX5_readGood 18 = .ok (.getfield 9, 3) := by decide +kernel
theorem dX5_readGood_21 : decode cX5_readGood 21 = .ok (.iconst 4, 1) := by decide +kernel
theorem dX5_readGood_22 : decode cX5_readGood 22 = .ok (.invokevirtual 104, 3) := by decide +kernel
theorem dX5_readGood_25 : decode cX5_readGood 25 = .ok (.ireturn, 1) := by decide +kernel
theorem dX5_readGood_26 : decode cX5_readGood 26 = .ok (.aload_n 0, 1) := by decide +kernel
theorem dX5_readGood_27 : decode cX5_readGood 27 = .ok (.invokevirtual 126, 3) := by decide +kernel
theorem dX5_readGood_30 : decode cX5_readGood 30 = .ok (.ifCond .ne 5, 3) := by decide +kernel
theorem dX5_readGood_33 : decode cX5_readGood 33 = .ok (.iconst 0, 1) := by decide +kernel
theorem dX5_readGood_34 : decode cX5_readGood 34 = .ok (.ireturn, 1) := by decide +kernel
theorem dX5_readGood_35 : decode cX5_readGood 35 = .ok (.aload_n 0, 1) := by decide +kernel
theorem dX5_readGood_36 : decode cX5_readGood 36 = .ok (.getfield 15, 3) := by decide +kernel
theorem dX5_readGood_39 : decode cX5_readGood 39 = .ok (.getfield 183, 3) := by decide +kernel
theorem dX5_readGood_42 : decode cX5_readGood 42 = .ok (.getfield 192, 3) := by decide +kernel
theorem dX5_readGood_45 : decode cX5_readGood 45 = .ok (.iload_n 1, 1) := by decide +kernel
theorem dX5_readGood_46 : decode cX5_readGood 46 = .ok (.aload_n 0, 1) := by decide +kernel
theorem dX5_readGood_47 : decode cX5_readGood 47 = .ok (.getfield 9, 3) := by decide +kernel
theorem dX5_readGood_50 : decode cX5_readGood 50 = .ok (.getfield 111, 3) := by decide +kernel
theorem dX5_readGood_53 : decode cX5_readGood 53 = .ok (.lastore, 1) := by decide +kernel
theorem dX5_readGood_54 : decode cX5_readGood 54 = .ok (.aload_n 0, 1) := by decide +kernel
theorem dX5_readGood_55 : decode cX5_readGood 55 = .ok (.getfield 9, 3) := by decide +kernel
theorem dX5_readGood_58 : decode cX5_readGood 58 = .ok (.invokevirtual 37, 3) := by decide +kernel
theorem dX5_readGood_61 : decode cX5_readGood 61 = .ok (.aload_n 0, 1) := by decide +kernel
theorem dX5_readGood_62 : decode cX5_readGood 62 = .ok (.getfield 9, 3) := by decide +kernel
theorem dX5_readGood_65 : decode cX5_readGood 65 = .ok (.getfield 60, 3) := by decide +kernel
theorem dX5_readGood_68 : decode cX5_readGood 68 = .ok (.getstatic 108, 3) := by decide +kernel
theorem dX5_readGood_71 : decode cX5_readGood 71 = .ok (.if_acmp .eq 12, 3) := by decide +kernel
theorem dX5_readGood_74 : decode cX5_readGood 74 = .ok (.aload_n 0, 1) := by decide +kernel
theorem dX5_readGood_75 : decode cX5_readGood 75 = .ok (.getfield 9, 3) := by decide +kernel
theorem dX5_readGood_78 : decode cX5_readGood 78 = .ok (.iconst 1, 1) := by decide +kernel
theorem dX5_readGood_79 : decode cX5_readGood 79 = .ok (.invokevirtual 104, 3) := by decide +kernel
theorem dX5_readGood_82 : decode cX5_readGood 82 = .ok (.ireturn, 1) := by decide +kernel
theorem dX5_readGood_83 : decode cX5_readGood 83 = .ok (.aload_n 0, 1) := by decide +kernel
theorem dX5_readGood_84 : decode cX5_readGood 84 = .ok (.getfield 15, 3) := by decide +kernel
theorem dX5_readGood_87 : decode cX5_readGood 87 = .ok (.getfield 183, 3) := by decide +kernel
theorem dX5_readGood_90 : decode cX5_readGood 90 = .ok (.getfield 195, 3) := by decide +kernel
theorem dX5_readGood_93 : decode cX5_readGood 93 = .ok (.iload_n 1, 1) := by decide +kernel
theorem dX5_readGood_94 : decode cX5_readGood 94 = .ok (.aload_n 0, 1) := by decide +kernel
theorem dX5_readGood_95 : decode cX5_readGood 95 = .ok (.getfield 15, 3) := by decide +kernel
theorem dX5_readGood_98 : decode cX5_readGood 98 = .ok (.aload_n 0, 1) := by decide +kernel
theorem dX5_readGood_99 : decode cX5_readGood 99 = .ok (.getfield 9, 3) := by decide +kernel
theorem dX5_readGood_102 : decode cX5_readGood 102 = .ok (.getfield 111, 3) := by decide +kernel
theorem dX5_readGood_105 : decode cX5_readGood 105 = .ok (.invokevirtual 198, 3) := by decide +kernel
theorem dX5_readGood_108 : decode cX5_readGood 108 = .ok (.iastore, 1) := by decide +kernel
theorem dX5_readGood_109 : decode cX5_readGood 109 = .ok (.aload_n 0, 1) := by decide +kernel
theorem dX5_readGood_110 : decode cX5_readGood 110 = .ok (.getfield 15, 3) := by decide +kernel
theorem dX5_readGood_113 : decode cX5_readGood 113 = .ok (.getfield 183, 3) := by decide +kernel
theorem dX5_readGood_116 : decode cX5_readGood 116 = .ok (.getfield 195, 3) := by decide +kernel
theorem dX5_readGood_119 : decode cX5_readGood 119 = .ok (.iload_n 1, 1) := by decide +kernel
theorem dX5_readGood_120 : decode cX5_readGood 120 = .ok (.iaload, 1) := by decide +kernel
theorem dX5_readGood_121 : decode cX5_readGood 121 = .ok (.iconst (-1), 1) := by decide +kernel
theorem dX5_readGood_122 : decode cX5_readGood 122 = .ok (.if_icmp .ne 12, 3) := by decide +kernel
theorem dX5_readGood_125 : decode cX5_readGood 125 = .ok (.aload_n 0, 1) := by decide +kernel
theorem dX5_readGood_126 : decode cX5_readGood 126 = .ok (.getfield 9, 3) := by decide +kernel
theorem dX5_readGood_129 : decode cX5_readGood 129 = .ok (.iconst 3, 1) := by decide +kernel
theorem dX5_readGood_130 : decode cX5_readGood 130 = .ok (.invokevirtual 104, 3) := by decide +kernel
theorem dX5_readGood_133 : decode cX5_readGood 133 = .ok (.ireturn, 1) := by decide +kernel
theorem dX5_readGood_134 : decode cX5_readGood 134 = .ok (.aload_n 0, 1) := by decide +kernel
theorem dX5_readGood_135 : decode cX5_readGood 135 = .ok (.getfield 9, 3) := by decide +kernel
theorem dX5_readGood_138 : decode cX5_readGood 138 = .ok (.iconst 0, 1) := by decide +kernel
theorem dX5_readGood_139 : decode cX5_readGood 139 = .ok (.bipush 99, 2) := by decide +kernel
theorem dX5_readGood_141 : decode cX5_readGood 141 = .ok (.invokevirtual 133, 3) := by decide +kernel
theorem dX5_readGood_144 : decode cX5_readGood 144 = .ok (.ifCond .ne 5, 3) := by decide +kernel
theorem dX5_readGood_147 : decode cX5_readGood 147 = .ok (.iconst 0, 1) := by decide +kernel
theorem dX5_readGood_148 : decode cX5_readGood 148 = .ok (.ireturn, 1) := by decide +kernel
theorem dX5_readGood_149 : decode cX5_readGood 149 = .ok (.aload_n 0, 1) := by decide +kernel
theorem dX5_readGood_150 : decode cX5_readGood 150 = .ok (.getfield 15, 3) := by decide +kernel
theorem dX5_readGood_153 : decode cX5_readGood 153 = .ok (.getfield 183, 3) := by decide +kernel
theorem dX5_readGood_156 : decode cX5_readGood 156 = .ok (.getfield 201, 3) := by decide +kernel
theorem dX5_readGood_159 : decode cX5_readGood 159 = .ok (.iload_n 1, 1) := by decide +kernel
theorem dX5_readGood_160 : decode cX5_readGood 160 = .ok (.aload_n 0, 1) := by decide +kernel
theorem dX5_readGood_161 : decode cX5_readGood 161 = .ok (.getfield 9, 3) := by decide +kernel
theorem dX5_readGood_164 : decode cX5_readGood 164 = .ok (.getfield 140, 3) := by decide +kernel
theorem dX5_readGood_167 : decode cX5_readGood 167 = .ok (.iastore, 1) := by decide +kernel
theorem dX5_readGood_168 : decode cX5_readGood 168 = .ok (.aload_n 0, 1) := by decide +kernel
theorem dX5_readGood_169 : decode cX5_readGood 169 = .ok (.getfield 9, 3) := by decide +kernel
theorem dX5_readGood_172 : decode cX5_readGood 172 = .ok (.iconst 0, 1) := by decide +kernel
theorem dX5_readGood_173 : decode cX5_readGood 173 = .ok (.bipush 99, 2) := by decide +kernel
theorem dX5_readGood_175 : decode cX5_readGood 175 = .ok (.invokevirtual 133, 3) := by decide +kernel
theorem dX5_readGood_178 : decode cX5_readGood 178 = .ok (.ifCond .ne 5, 3) := by decide +kernel
theorem dX5_readGood_181 : decode cX5_readGood 181 = .ok (.iconst 0, 1) := by decide +kernel
theorem dX5_readGood_182 : decode cX5_readGood 182 = .ok (.ireturn, 1) := by decide +kernel
theorem dX5_readGood_183 : decode cX5_readGood 183 = .ok (.aload_n 0, 1) := by decide +kernel
theorem dX5_readGood_184 : decode cX5_readGood 184 = .ok (.getfield 15, 3) := by decide +kernel
theorem dX5_readGood_187 : decode cX5_readGood 187 = .ok (.getfield 183, 3) := by decide +kernel
theorem dX5_readGood_190 : decode cX5_readGood 190 = .ok (.getfield 204, 3) := by decide +kernel
theorem dX5_readGood_193 : decode cX5_readGood 193 = .ok (.iload_n 1, 1) := by decide +kernel
theorem dX5_readGood_194 : decode cX5_readGood 194 = .ok (.aload_n 0, 1) := by decide +kernel
theorem dX5_readGood_195 : decode cX5_readGood 195 = .ok (.getfield 9, 3) := by decide +kernel
theorem dX5_readGood_198 : decode cX5_readGood 198 = .ok (.getfield 140, 3) := by decide +kernel
theorem dX5_readGood_201 : decode cX5_readGood 201 = .ok (.iastore, 1) := by decide +kernel
theorem dX5_readGood_202 : decode cX5_readGood 202 = .ok (.aload_n 0, 1) := by decide +kernel
theorem dX5_readGood_203 : decode cX5_readGood 203 = .ok (.getfield 15, 3) := by decide +kernel
theorem dX5_readGood_206 : decode cX5_readGood 206 = .ok (.getfield 183, 3) := by decide +kernel
theorem dX5_readGood_209 : decode cX5_readGood 209 = .ok (.dup, 1) := by decide +kernel
theorem dX5_readGood_210 : decode cX5_readGood 210 = .ok (.getfield 187, 3) := by decide +kernel
theorem dX5_readGood_213 : decode cX5_readGood 213 = .ok (.iconst 1, 1) := by decide +kernel
theorem dX5_readGood_214 : decode cX5_readGood 214 = .ok (.iadd, 1) := by decide +kernel
theorem dX5_readGood_215 : decode cX5_readGood 215 = .ok (.putfield 187, 3) := by decide +kernel
theorem dX5_readGood_218 : decode cX5_readGood 218 = .ok (.iconst 1, 1) := by decide +kernel
theorem dX5_readGood_219 : decode cX5_readGood 219 = .ok (.ireturn, 1) := by decide +kernel
theorem dX5_readGrace_0 : decode cX5_readGrace 0 = .ok (.aload_n 0, 1) := by decide +kernel
theorem dX5_readGrace_1 : decode cX5_readGrace 1 = .ok (.getfield 24, 3) := by decide +kernel
theorem dX5_readGrace_4 : decode cX5_readGrace 4 = .ok (.ifCond .eq 12, 3) := by decide +kernel
theorem dX5_readGrace_7 : decode cX5_readGrace 7 = .ok (.aload_n 0, 1) := by decide +kernel
theorem dX5_readGrace_8 : decode cX5_readGrace 8 = .ok (.getfield 9, 3) := by decide +kernel
theorem dX5_readGrace_11 : decode cX5_readGrace 11 = .ok (.iconst 3, 1) := by decide +kernel
theorem dX5_readGrace_12 : decode cX5_readGrace 12 = .ok (.invokevirtual 104, 3) := by decide +kernel
theorem dX5_readGrace_15 : decode cX5_readGrace 15 = .ok (.ireturn, 1) := by decide +kernel
theorem dX5_readGrace_16 : decode cX5_readGrace 16 = .ok (.aload_n 0, 1) := by decide +kernel
theorem dX5_readGrace_17 : decode cX5_readGrace 17 = .ok (.getfield 9, 3) := by decide +kernel
theorem dX5_readGrace_20 : decode cX5_readGrace 20 = .ok (.iconst 1, 1) := by decide +kernel
theorem dX5_readGrace_21 : decode cX5_readGrace 21 = .ok (.bipush 9, 2) := by decide +kernel
theorem dX5_readGrace_23 : decode cX5_readGrace 23 = .ok (.invokevirtual 133, 3) := by decide +kernel
theorem dX5_readGrace_26 : decode cX5_readGrace 26 = .ok (.ifCond .ne 5, 3) := by decide +kernel
theorem dX5_readGrace_29 : decode cX5_readGrace 29 = .ok (.iconst 0, 1) := by decide +kernel
theorem dX5_readGrace_30 : decode cX5_readGrace 30 = .ok (.ireturn, 1) := by decide +kernel
theorem dX5_readGrace_31 : decode cX5_readGrace 31 = .ok (.aload_n 0, 1) := by decide +kernel
theorem dX5_readGrace_32 : decode cX5_readGrace 32 = .ok (.iconst 1, 1) := by decide +kernel
theorem dX5_readGrace_33 : decode cX5_readGrace 33 = .ok (.putfield 24, 3) := by decide +kernel
theorem dX5_readGrace_36 : decode cX5_readGrace 36 = .ok (.aload_n 0, 1) := by decide +kernel
theorem dX5_readGrace_37 : decode cX5_readGrace 37 = .ok (.getfield 15, 3) := by decide +kernel
theorem dX5_readGrace_40 : decode cX5_readGrace 40 = .ok (.aload_n 0, 1) := by decide +kernel
theorem dX5_readGrace_41 : decode cX5_readGrace 41 = .ok (.getfield 9, 3) := by decide +kernel
theorem dX5_readGrace_44 : decode cX5_readGrace 44 = .ok (.getfield 140, 3) := by decide +kernel
theorem dX5_readGrace_47 : decode cX5_readGrace 47 = .ok (.putfield 207, 3) := by decide +kernel
theorem dX5_readGrace_50 : decode cX5_readGrace 50 = .ok (.iconst 1, 1) := by decide +kernel
theorem dX5_readGrace_51 : decode cX5_readGrace 51 = .ok (.ireturn, 1) := by decide +kernel
theorem dX5_readWish_0 : decode cX5_readWish 0 = .ok (.aload_n 0, 1) := by decide +kernel
theorem dX5_readWish_1 : decode cX5_readWish 1 = .ok (.getfield 28, 3) := by decide +kernel
theorem dX5_readWish_4 : decode cX5_readWish 4 = .ok (.ifCond .eq 12, 3) := by decide +kernel
theorem dX5_readWish_7 : decode cX5_readWish 7 = .ok (.aload_n 0, 1) := by decide +kernel
theorem dX5_readWish_8 : decode cX5_readWish 8 = .ok (.getfield 9, 3) := by decide +kernel
theorem dX5_readWish_11 : decode cX5_readWish 11 = .ok (.iconst 3, 1) := by decide +kernel
theorem dX5_readWish_12 : decode cX5_readWish 12 = .ok (.invokevirtual 104, 3) := by decide +kernel
theorem dX5_readWish_15 : decode cX5_readWish 15 = .ok (.ireturn, 1) := by decide +kernel
theorem dX5_readWish_16 : decode cX5_readWish 16 = .ok (.aload_n 0, 1) := by decide +kernel
theorem dX5_readWish_17 : decode cX5_readWish 17 = .ok (.getfield 9, 3) := by decide +kernel
theorem dX5_readWish_20 : decode cX5_readWish 20 = .ok (.iconst 0, 1) := by decide +kernel
theorem dX5_readWish_21 : decode cX5_readWish 21 = .ok (.bipush 99, 2) := by decide +kernel
theorem dX5_readWish_23 : decode cX5_readWish 23 = .ok (.invokevirtual 133, 3) := by decide +kernel
theorem dX5_readWish_26 : decode cX5_readWish 26 = .ok (.ifCond .ne 5, 3) := by decide +kernel
theorem dX5_readWish_29 : decode cX5_readWish 29 = .ok (.iconst 0, 1) := by decide +kernel
theorem dX5_readWish_30 : decode cX5_readWish 30 = .ok (.ireturn, 1) := by decide +kernel
theorem dX5_readWish_31 : decode cX5_readWish 31 = .ok (.aload_n 0, 1) := by decide +kernel
theorem dX5_readWish_32 : decode cX5_readWish 32 = .ok (.iconst 1, 1) := by decide +kernel
theorem dX5_readWish_33 : decode cX5_readWish 33 = .ok (.putfield 28, 3) := by decide +kernel
theorem dX5_readWish_36 : decode cX5_readWish 36 = .ok (.aload_n 0, 1) := by decide +kernel
theorem dX5_readWish_37 : decode cX5_readWish 37 = .ok (.getfield 15, 3) := by decide +kernel
theorem dX5_readWish_40 : decode cX5_readWish 40 = .ok (.aload_n 0, 1) := by decide +kernel
theorem dX5_readWish_41 : decode cX5_readWish 41 = .ok (.getfield 9, 3) := by decide +kernel
theorem dX5_readWish_44 : decode cX5_readWish 44 = .ok (.getfield 140, 3) := by decide +kernel
theorem dX5_readWish_47 : decode cX5_readWish 47 = .ok (.putfield 210, 3) := by decide +kernel
theorem dX5_readWish_50 : decode cX5_readWish 50 = .ok (.iconst 1, 1) := by decide +kernel
theorem dX5_readWish_51 : decode cX5_readWish 51 = .ok (.ireturn, 1) := by decide +kernel
theorem dX5_readEarly_0 : decode cX5_readEarly 0 = .ok (.aload_n 0, 1) := by decide +kernel
theorem dX5_readEarly_1 : decode cX5_readEarly 1 = .ok (.getfield 15, 3) := by decide +kernel
theorem dX5_readEarly_4 : decode cX5_readEarly 4 = .ok (.getfield 213, 3) := by decide +kernel
theorem dX5_readEarly_7 : decode cX5_readEarly 7 = .ok (.ifCond .eq 12, 3) := by decide +kernel
theorem dX5_readEarly_10 : decode cX5_readEarly 10 = .ok (.aload_n 0, 1) := by decide +kernel
theorem dX5_readEarly_11 : decode cX5_readEarly 11 = .ok (.getfield 9, 3) := by decide +kernel
theorem dX5_readEarly_14 : decode cX5_readEarly 14 = .ok (.iconst 3, 1) := by decide +kernel
theorem dX5_readEarly_15 : decode cX5_readEarly 15 = .ok (.invokevirtual 104, 3) := by decide +kernel
theorem dX5_readEarly_18 : decode cX5_readEarly 18 = .ok (.ireturn, 1) := by decide +kernel
theorem dX5_readEarly_19 : decode cX5_readEarly 19 = .ok (.aload_n 0, 1) := by decide +kernel
theorem dX5_readEarly_20 : decode cX5_readEarly 20 = .ok (.getfield 15, 3) := by decide +kernel
theorem dX5_readEarly_23 : decode cX5_readEarly 23 = .ok (.iconst 1, 1) := by decide +kernel
theorem dX5_readEarly_24 : decode cX5_readEarly 24 = .ok (.putfield 213, 3) := by decide +kernel
theorem dX5_readEarly_27 : decode cX5_readEarly 27 = .ok (.iconst 1, 1) := by decide +kernel
theorem dX5_readEarly_28 : decode cX5_readEarly 28 = .ok (.ireturn, 1) := by decide +kernel
theorem dX5_readLevel_0 : decode cX5_readLevel 0 = .ok (.aload_n 0, 1) := by decide +kernel
theorem dX5_readLevel_1 : decode cX5_readLevel 1 = .ok (.getfield 15, 3) := by decide +kernel
theorem dX5_readLevel_4 : decode cX5_readLevel 4 = .ok (.getfield 216, 3) := by decide +kernel
theorem dX5_readLevel_7 : decode cX5_readLevel 7 = .ok (.ifCond .eq 12, 3) := by decide +kernel
theorem dX5_readLevel_10 : decode cX5_readLevel 10 = .ok (.aload_n 0, 1) := by decide +kernel
theorem dX5_readLevel_11 : decode cX5_readLevel 11 = .ok (.getfield 9, 3) := by decide +kernel
theorem dX5_readLevel_14 : decode cX5_readLevel 14 = .ok (.iconst 3, 1) := by decide +kernel
theorem dX5_readLevel_15 : decode cX5_readLevel 15 = .ok (.invokevirtual 104, 3) := by decide +kernel
theorem dX5_readLevel_18 : decode cX5_readLevel 18 = .ok (.ireturn, 1) := by decide +kernel
theorem dX5_readLevel_19 : decode cX5_readLevel 19 = .ok (.aload_n 0, 1) := by decide +kernel
theorem dX5_readLevel_20 : decode cX5_readLevel 20 = .ok (.getfield 15, 3) := by decide +kernel
theorem dX5_readLevel_23 : decode cX5_readLevel 23 = .ok (.iconst 1, 1) := by decide +kernel
theorem dX5_readLevel_24 : decode cX5_readLevel 24 = .ok (.putfield 216, 3) := by decide +kernel
theorem dX5_readLevel_27 : decode cX5_readLevel 27 = .ok (.iconst 1, 1) := by decide +kernel
theorem dX5_readLevel_28 : decode cX5_readLevel 28 = .ok (.ireturn, 1) := by decide +kernel
theorem dX6_init_0 : decode cX6_init 0 = .ok (.aload_n 0, 1) := by decide +kernel
theorem dX6_init_1 : decode cX6_init 1 = .ok (.invokespecial 3, 3) := by decide +kernel
theorem dX6_init_4 : decode cX6_init 4 = .ok (.aload_n 0, 1) := by decide +kernel
theorem dX6_init_5 : decode cX6_init 5 = .ok (.bipush 40, 2) := by decide +kernel
theorem dX6_init_7 : decode cX6_init 7 = .ok (.newarray .int, 2) := by decide +kernel
theorem dX6_init_9 : decode cX6_init 9 = .ok (.putfield 11, 3) := by decide +kernel
theorem dX6_init_12 : decode cX6_init 12 = .ok (.aload_n 0, 1) := by decide +kernel
theorem dX6_init_13 : decode cX6_init 13 = .ok (.bipush 40, 2) := by decide +kernel
theorem dX6_init_15 : decode cX6_init 15 = .ok (.newarray .int, 2) := by decide +kernel
theorem dX6_init_17 : decode cX6_init 17 = .ok (.putfield 15, 3) := by decide +kernel
theorem dX6_init_20 : decode cX6_init 20 = .ok (.aload_n 0, 1) := by decide +kernel
theorem dX6_init_21 : decode cX6_init 21 = .ok (.bipush 40, 2) := by decide +kernel
theorem dX6_init_23 : decode cX6_init 23 = .ok (.newarray .int, 2) := by decide +kernel
theorem dX6_init_25 : decode cX6_init 25 = .ok (.putfield 18, 3) := by decide +kernel
theorem dX6_init_28 : decode cX6_init 28 = .ok (.aload_n 0, 1) := by decide +kernel
theorem dX6_init_29 : decode cX6_init 29 = .ok (.aload_n 1, 1) := by decide +kernel
theorem dX6_init_30 : decode cX6_init 30 = .ok (.putfield 21, 3) := by decide +kernel
theorem dX6_init_33 : decode cX6_init 33 = .ok (.aload_n 0, 1) := by decide +kernel
theorem dX6_init_34 : decode cX6_init 34 = .ok (.aload_n 2, 1) := by decide +kernel
theorem dX6_init_35 : decode cX6_init 35 = .ok (.putfield 25, 3) := by decide +kernel
theorem dX6_init_38 : decode cX6_init 38 = .ok (.return_, 1) := by decide +kernel
theorem dX6_read_0 : decode cX6_read 0 = .ok (.aload_n 0, 1) := by decide +kernel
theorem dX6_read_1 : decode cX6_read 1 = .ok (.getfield 21, 3) := by decide +kernel
theorem dX6_read_4 : decode cX6_read 4 = .ok (.sipush 400, 3) := by decide +kernel
theorem dX6_read_7 : decode cX6_read 7 = .ok (.invokevirtual 29, 3) := by decide +kernel
theorem dX6_read_10 : decode cX6_read 10 = .ok (.aload_n 0, 1) := by decide +kernel
theorem dX6_read_11 : decode cX6_read 11 = .ok (.iconst 0, 1) := by decide +kernel
theorem dX6_read_12 : decode cX6_read 12 = .ok (.putfield 35, 3) := by decide +kernel
theorem dX6_read_15 : decode cX6_read 15 = .ok (.aload_n 0, 1) := by decide +kernel
theorem dX6_read_16 : decode cX6_read 16 = .ok (.getfield 21, 3) := by decide +kernel
theorem dX6_read_19 : decode cX6_read 19 = .ok (.invokevirtual 39, 3) := by decide +kernel
theorem dX6_read_22 : decode cX6_read 22 = .ok (.aload_n 0, 1) := by decide +kernel
theorem dX6_read_23 : decode cX6_read 23 = .ok (.getfield 21, 3) := by decide +kernel
theorem dX6_read_26 : decode cX6_read 26 = .ok (.getfield 42, 3) := by decide +kernel
theorem dX6_read_29 : decode cX6_read 29 = .ok (.ifCond .eq 51, 3) := by decide +kernel
theorem dX6_read_32 : decode cX6_read 32 = .ok (.aload_n 0, 1) := by decide +kernel
theorem dX6_read_33 : decode cX6_read 33 = .ok (.getfield 35, 3) := by decide +kernel
theorem dX6_read_36 : decode cX6_read 36 = .ok (.bipush 40, 2) := by decide +kernel
theorem dX6_read_38 : decode cX6_read 38 = .ok (.if_icmp .gt 42, 3) := by decide +kernel
theorem dX6_read_41 : decode cX6_read 41 = .ok (.aload_n 0, 1) := by decide +kernel
theorem dX6_read_42 : decode cX6_read 42 = .ok (.invokevirtual 45, 3) := by decide +kernel
theorem dX6_read_45 : decode cX6_read 45 = .ok (.ifCond .eq 13, 3) := by decide +kernel
theorem dX6_read_48 : decode cX6_read 48 = .ok (.aload_n 0, 1) := by decide +kernel
theorem dX6_read_49 : decode cX6_read 49 = .ok (.getfield 21, 3) := by decide +kernel
theorem dX6_read_52 : decode cX6_read 52 = .ok (.invokevirtual 49, 3) := by decide +kernel
theorem dX6_read_55 : decode cX6_read 55 = .ok (.ifCond .ne 5, 3) := by decide +kernel
theorem dX6_read_58 : decode cX6_read 58 = .ok (.iconst 0, 1) := by decide +kernel
theorem dX6_read_59 : decode cX6_read 59 = .ok (.ireturn, 1) := by decide +kernel
theorem dX6_read_60 : decode cX6_read 60 = .ok (.aload_n 0, 1) := by decide +kernel
theorem dX6_read_61 : decode cX6_read 61 = .ok (.dup, 1) := by decide +kernel
theorem dX6_read_62 : decode cX6_read 62 = .ok (.getfield 35, 3) := by decide +kernel
theorem dX6_read_65 : decode cX6_read 65 = .ok (.iconst 1, 1) := by decide +kernel
theorem dX6_read_66 : decode cX6_read 66 = .ok (.iadd, 1) := by decide +kernel
theorem dX6_read_67 : decode cX6_read 67 = .ok (.putfield 35, 3) := by decide +kernel
theorem dX6_read_70 : decode cX6_read 70 = .ok (.aload_n 0, 1) := by decide +kernel
theorem dX6_read_71 : decode cX6_read 71 = .ok (.getfield 21, 3) := by decide +kernel
theorem dX6_read_74 : decode cX6_read 74 = .ok (.invokevirtual 39, 3) := by decide +kernel
theorem dX6_read_77 : decode cX6_read 77 = .ok (.goto (-55), 3) := by decide +kernel
theorem dX6_read_80 : decode cX6_read 80 = .ok (.iconst 1, 1) := by decide +kernel
theorem dX6_read_81 : decode cX6_read 81 = .ok (.ireturn, 1) := by decide +kernel
theorem dX6_readLine_0 : decode cX6_readLine 0 = .ok (.aload_n 0, 1) := by decide +kernel
theorem dX6_readLine_1 : decode cX6_readLine 1 = .ok (.getfield 25, 3) := by decide +kernel
theorem dX6_readLine_4 : decode cX6_readLine 4 = .ok (.aload_n 0, 1) := by decide +kernel
theorem dX6_readLine_5 : decode cX6_readLine 5 = .ok (.getfield 21, 3) := by decide +kernel
theorem dX6_readLine_8 : decode cX6_readLine 8 = .ok (.getfield 52, 3) := by decide +kernel
theorem dX6_readLine_11 : decode cX6_readLine 11 = .ok (.invokevirtual 56, 3) := by decide +kernel
theorem dX6_readLine_14 : decode cX6_readLine 14 = .ok (.istore_n 1, 1) := by decide +kernel
theorem dX6_readLine_15 : decode cX6_readLine 15 = .ok (.aload_n 0, 1) := by decide +kernel
theorem dX6_readLine_16 : decode cX6_readLine 16 = .ok (.getfield 25, 3) := by decide +kernel
theorem dX6_readLine_19 : decode cX6_readLine 19 = .ok (.aload_n 0, 1) := by decide +kernel
theorem dX6_readLine_20 : decode cX6_readLine 20 = .ok (.getfield 21, 3) := by decide +kernel
theorem dX6_readLine_23 : decode cX6_readLine 23 = .ok (.getfield 52, 3) := by decide +kernel
theorem dX6_readLine_26 : decode cX6_readLine 26 = .ok (.invokevirtual 62, 3) := by decide +kernel
theorem dX6_readLine_29 : decode cX6_readLine 29 = .ok (.istore_n 2, 1) := by decide +kernel
theorem dX6_readLine_30 : decode cX6_readLine 30 = .ok (.aload_n 0, 1) := by decide +kernel
theorem dX6_readLine_31 : decode cX6_readLine 31 = .ok (.getfield 21, 3) := by decide +kernel
theorem dX6_readLine_34 : decode cX6_readLine 34 = .ok (.getfield 65, 3) := by decide +kernel
theorem dX6_readLine_37 : decode cX6_readLine 37 = .ok (.getstatic 69, 3) := by decide +kernel
theorem dX6_readLine_40 : decode cX6_readLine 40 = .ok (.if_acmp .eq 25, 3) := by decide +kernel
theorem dX6_readLine_43 : decode cX6_readLine 43 = .ok (.aload_n 0, 1) := by decide +kernel
theorem dX6_readLine_44 : decode cX6_readLine 44 = .ok (.getfield 21, 3) := by decide +kernel
theorem dX6_readLine_47 : decode cX6_readLine 47 = .ok (.getfield 65, 3) := by decide +kernel
theorem dX6_readLine_50 : decode cX6_readLine 50 = .ok (.getstatic 74, 3) := by decide +kernel
theorem dX6_readLine_53 : decode cX6_readLine 53 = .ok (.if_acmp .eq 12, 3) := by decide +kernel
theorem dX6_readLine_56 : decode cX6_readLine 56 = .ok (.aload_n 0, 1) := by decide +kernel
theorem dX6_readLine_57 : decode cX6_readLine 57 = .ok (.getfield 21, 3) := by decide +kernel
theorem dX6_readLine_60 : decode cX6_readLine 60 = .ok (.iconst 1, 1) := by decide +kernel
theorem dX6_readLine_61 : decode cX6_readLine 61 = .ok (.invokevirtual 77, 3) := by decide +kernel
theorem dX6_readLine_64 : decode cX6_readLine 64 = .ok (.ireturn, 1) := by decide +kernel
theorem dX6_readLine_65 : decode cX6_readLine 65 = .ok (.aload_n 0, 1) := by decide +kernel
theorem dX6_readLine_66 : decode cX6_readLine 66 = .ok (.getfield 21, 3) := by decide +kernel
theorem dX6_readLine_69 : decode cX6_readLine 69 = .ok (.getfield 65, 3) := by decide +kernel
theorem dX6_readLine_72 : decode cX6_readLine 72 = .ok (.getstatic 74, 3) := by decide +kernel
theorem dX6_readLine_75 : decode cX6_readLine 75 = .ok (.if_acmp .ne 22, 3) := by decide +kernel
theorem dX6_readLine_78 : decode cX6_readLine 78 = .ok (.iload_n 1, 1) := by decide +kernel
theorem dX6_readLine_79 : decode cX6_readLine 79 = .ok (.iconst (-1), 1) := by decide +kernel
theorem dX6_readLine_80 : decode cX6_readLine 80 = .ok (.if_icmp .ne 17, 3) := by decide +kernel
theorem dX6_readLine_83 : decode cX6_readLine 83 = .ok (.iload_n 2, 1) := by decide +kernel
theorem dX6_readLine_84 : decode cX6_readLine 84 = .ok (.iconst (-1), 1) := by decide +kernel
theorem dX6_readLine_85 : decode cX6_readLine 85 = .ok (.if_icmp .ne 12, 3) := by decide +kernel
theorem dX6_readLine_88 : decode cX6_readLine 88 = .ok (.aload_n 0, 1) := by decide +kernel
theorem dX6_readLine_89 : decode cX6_readLine 89 = .ok (.getfield 21, 3) := by decide +kernel
theorem dX6_readLine_92 : decode cX6_readLine 92 = .ok (.iconst 3, 1) := by decide +kernel
theorem dX6_readLine_93 : decode cX6_readLine 93 = .ok (.invokevirtual 77, 3) := by decide +kernel
theorem dX6_readLine_96 : decode cX6_readLine 96 = .ok (.ireturn, 1) := by decide +kernel
theorem dX6_readLine_97 : decode cX6_readLine 97 = .ok (.aload_n 0, 1) := by decide +kernel
theorem dX6_readLine_98 : decode cX6_readLine 98 = .ok (.getfield 35, 3) := by decide +kernel
theorem dX6_readLine_101 : decode cX6_readLine 101 = .ok (.bipush 40, 2) := by decide +kernel
theorem dX6_readLine_103 : decode cX6_readLine 103 = .ok (.if_icmp .lt 12, 3) := by decide +kernel
theorem dX6_readLine_106 : decode cX6_readLine 106 = .ok (.aload_n 0, 1) := by decide +kernel
theorem dX6_readLine_107 : decode cX6_readLine 107 = .ok (.getfield 21, 3) := by decide +kernel
theorem dX6_readLine_110 : decode cX6_readLine 110 = .ok (.iconst 4, 1) := by decide +kernel
theorem dX6_readLine_111 : decode cX6_readLine 111 = .ok (.invokevirtual 77, 3) := by decide +kernel
theorem dX6_readLine_114 : decode cX6_readLine 114 = .ok (.ireturn, 1) := by decide +kernel
theorem dX6_readLine_115 : decode cX6_readLine 115 = .ok (.aload_n 0, 1) := by decide +kernel
theorem dX6_readLine_116 : decode cX6_readLine 116 = .ok (.getfield 21, 3) := by decide +kernel
theorem dX6_readLine_119 : decode cX6_readLine 119 = .ok (.getfield 65, 3) := by decide +kernel
theorem dX6_readLine_122 : decode cX6_readLine 122 = .ok (.getstatic 69, 3) := by decide +kernel
theorem dX6_readLine_125 : decode cX6_readLine 125 = .ok (.if_acmp .ne 14, 3) := by decide +kernel
theorem dX6_readLine_128 : decode cX6_readLine 128 = .ok (.aload_n 0, 1) := by decide +kernel
theorem dX6_readLine_129 : decode cX6_readLine 129 = .ok (.bipush 6, 2) := by decide +kernel
theorem dX6_readLine_131 : decode cX6_readLine 131 = .ok (.iconst 0, 1) := by decide +kernel
theorem dX6_readLine_132 : decode cX6_readLine 132 = .ok (.iconst 1, 1) := by decide +kernel
theorem dX6_readLine_133 : decode cX6_readLine 133 = .ok (.bipush 60, 2) := by decide +kernel
theorem dX6_readLine_135 : decode cX6_readLine 135 = .ok (.invokevirtual 83, 3) := by decide +kernel
theorem dX6_readLine_138 : decode cX6_readLine 138 = .ok (.ireturn, 1) := by decide +kernel
theorem dX6_readLine_139 : decode cX6_readLine 139 = .ok (.aload_n 0, 1) := by decide +kernel
theorem dX6_readLine_140 : decode cX6_readLine 140 = .ok (.getfield 21, 3) := by decide +kernel
theorem dX6_readLine_143 : decode cX6_readLine 143 = .ok (.invokevirtual 39, 3) := by decide +kernel
theorem dX6_readLine_146 : decode cX6_readLine 146 = .ok (.iload_n 1, 1) := by decide +kernel
theorem dX6_readLine_147 : decode cX6_readLine 147 = .ok (.iconst (-1), 1) := by decide +kernel
theorem dX6_readLine_148 : decode cX6_readLine 148 = .ok (.if_icmp .eq 11, 3) := by decide +kernel
theorem dX6_readLine_151 : decode cX6_readLine 151 = .ok (.aload_n 0, 1) := by decide +kernel
theorem dX6_readLine_152 : decode cX6_readLine 152 = .ok (.iload_n 1, 1) := by decide +kernel
theorem dX6_readLine_153 : decode cX6_readLine 153 = .ok (.invokevirtual 87, 3) := by decide +kernel
theorem dX6_readLine_156 : decode cX6_readLine 156 = .ok (.goto 8, 3) := by decide +kernel
theorem dX6_readLine_159 : decode cX6_readLine 159 = .ok (.aload_n 0, 1) := by decide +kernel
theorem dX6_readLine_160 : decode cX6_readLine 160 = .ok (.iload_n 2, 1) := by decide +kernel
theorem dX6_readLine_161 : decode cX6_readLine 161 = .ok (.invokevirtual 90, 3) := by decide +kernel
theorem dX6_readLine_164 : decode cX6_readLine 164 = .ok (.ireturn, 1) := by decide +kernel
theorem dX6_readActOfPerson_0 : decode cX6_readActOfPerson 0 = .ok (.getstatic 93, 3) := by decide +kernel
theorem dX6_readActOfPerson_3 : decode cX6_readActOfPerson 3 = .ok (.aload_n 0, 1) := by decide +kernel
theorem dX6_readActOfPerson_4 : decode cX6_readActOfPerson 4 = .ok (.getfield 21, 3) := by decide +kernel
theorem dX6_readActOfPerson_7 : decode cX6_readActOfPerson 7 = .ok (.getfield 65, 3) := by decide +kernel
theorem dX6_readActOfPerson_10 : decode cX6_readActOfPerson 10 = .ok (.invokevirtual 98, 3) := by decide +kernel
theorem dX6_readActOfPerson_13 : decode cX6_readActOfPerson 13 = .ok (.iaload, 1) := by decide +kernel
theorem dX6_readActOfPerson_14 : decode cX6_readActOfPerson 14 = .ok (.tableswitch 52 11 13 #[26, 34, 42], 26) := by decide +kernel
theorem dX6_readActOfPerson_40 : decode cX6_readActOfPerson 40 = .ok (.aload_n 0, 1) := by decide +kernel
theorem dX6_readActOfPerson_41 : decode cX6_readActOfPerson 41 = .ok (.iconst 0, 1) := by decide +kernel
theorem dX6_readActOfPerson_42 : decode cX6_readActOfPerson 42 = .ok (.iload_n 1, 1) := by decide +kernel
theorem dX6_readActOfPerson_43 : decode cX6_readActOfPerson 43 = .ok (.iconst 0, 1) := by decide +kernel
theorem dX6_readActOfPerson_44 : decode cX6_readActOfPerson 44 = .ok (.invokevirtual 102, 3) := by decide +kernel
theorem dX6_readActOfPerson_47 : decode cX6_readActOfPerson 47 = .ok (.ireturn, 1) := by decide +kernel
theorem dX6_readActOfPerson_48 : decode cX6_readActOfPerson 48 = .ok (.aload_n 0, 1) := by decide +kernel
theorem dX6_readActOfPerson_49 : decode cX6_readActOfPerson 49 = .ok (.iconst 1, 1) := by decide +kernel
theorem dX6_readActOfPerson_50 : decode cX6_readActOfPerson 50 = .ok (.iload_n 1, 1) := by decide +kernel
theorem dX6_readActOfPerson_51 : decode cX6_readActOfPerson 51 = .ok (.iconst 0, 1) := by decide +kernel
theorem dX6_readActOfPerson_52 : decode cX6_readActOfPerson 52 = .ok (.invokevirtual 102, 3) := by decide +kernel
theorem dX6_readActOfPerson_55 : decode cX6_readActOfPerson 55 = .ok (.ireturn, 1) := by decide +kernel
theorem dX6_readActOfPerson_56 : decode cX6_readActOfPerson 56 = .ok (.aload_n 0, 1) := by decide +kernel
theorem dX6_readActOfPerson_57 : decode cX6_readActOfPerson 57 = .ok (.iconst 2, 1) := by decide +kernel
theorem dX6_readActOfPerson_58 : decode cX6_readActOfPerson 58 = .ok (.iload_n 1, 1) := by decide +kernel
theorem dX6_readActOfPerson_59 : decode cX6_readActOfPerson 59 = .ok (.iconst 1, 1) := by decide +kernel
theorem dX6_readActOfPerson_60 : decode cX6_readActOfPerson 60 = .ok (.bipush 20, 2) := by decide +kernel
theorem dX6_readActOfPerson_62 : decode cX6_readActOfPerson 62 = .ok (.invokevirtual 83, 3) := by decide +kernel
theorem dX6_readActOfPerson_65 : decode cX6_readActOfPerson 65 = .ok (.ireturn, 1) := by decide +kernel
theorem dX6_readActOfPerson_66 : decode cX6_readActOfPerson 66 = .ok (.aload_n 0, 1) := by decide +kernel
theorem dX6_readActOfPerson_67 : decode cX6_readActOfPerson 67 = .ok (.getfield 21, 3) := by decide +kernel
theorem dX6_readActOfPerson_70 : decode cX6_readActOfPerson 70 = .ok (.iconst 1, 1) := by decide +kernel
theorem dX6_readActOfPerson_71 : decode cX6_readActOfPerson 71 = .ok (.invokevirtual 77, 3) := by decide +kernel
theorem dX6_readActOfPerson_74 : decode cX6_readActOfPerson 74 = .ok (.ireturn, 1) := by decide +kernel
theorem dX6_readActOfGlass_0 : decode cX6_readActOfGlass 0 = .ok (.getstatic 93, 3) := by decide +kernel
theorem dX6_readActOfGlass_3 : decode cX6_readActOfGlass 3 = .ok (.aload_n 0, 1) := by decide +kernel
theorem dX6_readActOfGlass_4 : decode cX6_readActOfGlass 4 = .ok (.getfield 21, 3) := by decide +kernel
theorem dX6_readActOfGlass_7 : decode cX6_readActOfGlass 7 = .ok (.getfield 65, 3) := by decide +kernel
theorem dX6_readActOfGlass_10 : decode cX6_readActOfGlass 10 = .ok (.invokevirtual 98, 3) := by decide +kernel
theorem dX6_readActOfGlass_13 : decode cX6_readActOfGlass 13 = .ok (.iaload, 1) := by decide +kernel
theorem dX6_readActOfGlass_14 : decode cX6_readActOfGlass 14 = .ok (.tableswitch 56 14 16 #[26, 35, 45], 26) := by decide +kernel
theorem dX6_readActOfGlass_40 : decode cX6_readActOfGlass 40 = .ok (.aload_n 0, 1) := by decide +kernel
theorem dX6_readActOfGlass_41 : decode cX6_readActOfGlass 41 = .ok (.iconst 3, 1) := by decide +kernel
theorem dX6_readActOfGlass_42 : decode cX6_readActOfGlass 42 = .ok (.iload_n 1, 1) := by decide +kernel
theorem dX6_readActOfGlass_43 : decode cX6_readActOfGlass 43 = .ok (.iconst 0, 1) := by decide +kernel
theorem dX6_readActOfGlass_44 : decode cX6_readActOfGlass 44 = .ok (.iconst 2, 1) := by decide +kernel
theorem dX6_readActOfGlass_45 : decode cX6_readActOfGlass 45 = .ok (.invokevirtual 83, 3) := by decide +kernel
theorem dX6_readActOfGlass_48 : decode cX6_readActOfGlass 48 = .ok (.ireturn, 1) := by decide +kernel
theorem dX6_readActOfGlass_49 : decode cX6_readActOfGlass 49 = .ok (.aload_n 0, 1) := by decide +kernel
theorem dX6_readActOfGlass_50 : decode cX6_readActOfGlass 50 = .ok (.iconst 4, 1) := by decide +kernel
theorem dX6_readActOfGlass_51 : decode cX6_readActOfGlass 51 = .ok (.iload_n 1, 1) := by decide +kernel
theorem dX6_readActOfGlass_52 : decode cX6_readActOfGlass 52 = .ok (.iconst 1, 1) := by decide +kernel
theorem dX6_readActOfGlass_53 : decode cX6_readActOfGlass 53 = .ok (.bipush 8, 2) := by decide +kernel
theorem dX6_readActOfGlass_55 : decode cX6_readActOfGlass 55 = .ok (.invokevirtual 83, 3) := by decide +kernel
theorem dX6_readActOfGlass_58 : decode cX6_readActOfGlass 58 = .ok (.ireturn, 1) := by decide +kernel
theorem dX6_readActOfGlass_59 : decode cX6_readActOfGlass 59 = .ok (.aload_n 0, 1) := by decide +kernel
theorem dX6_readActOfGlass_60 : decode cX6_readActOfGlass 60 = .ok (.iconst 5, 1) := by decide +kernel
theorem dX6_readActOfGlass_61 : decode cX6_readActOfGlass 61 = .ok (.iload_n 1, 1) := by decide +kernel
theorem dX6_readActOfGlass_62 : decode cX6_readActOfGlass 62 = .ok (.iconst 1, 1) := by decide +kernel
theorem dX6_readActOfGlass_63 : decode cX6_readActOfGlass 63 = .ok (.sipush 250, 3) := by decide +kernel
theorem dX6_readActOfGlass_66 : decode cX6_readActOfGlass 66 = .ok (.invokevirtual 83, 3) := by decide +kernel
theorem dX6_readActOfGlass_69 : decode cX6_readActOfGlass 69 = .ok (.ireturn, 1) := by decide +kernel
theorem dX6_readActOfGlass_70 : decode cX6_readActOfGlass 70 = .ok (.aload_n 0, 1) := by decide +kernel
theorem dX6_readActOfGlass_71 : decode cX6_readActOfGlass 71 = .ok (.getfield 21, 3) := by decide +kernel
theorem dX6_readActOfGlass_74 : decode cX6_readActOfGlass 74 = .ok (.iconst 1, 1) := by decide +kernel
theorem dX6_readActOfGlass_75 : decode cX6_readActOfGlass 75 = .ok (.invokevirtual 77, 3) := by decide +kernel
theorem dX6_readActOfGlass_78 : decode cX6_readActOfGlass 78 = .ok (.ireturn, 1) := by decide +kernel
theorem dX6_takeAct_0 : decode cX6_takeAct 0 = .ok (.aload_n 0, 1) := by decide +kernel
theorem dX6_takeAct_1 : decode cX6_takeAct 1 = .ok (.getfield 21, 3) := by decide +kernel
theorem dX6_takeAct_4 : decode cX6_takeAct 4 = .ok (.iload_n 3, 1) := by decide +kernel
theorem dX6_takeAct_5 : decode cX6_takeAct 5 = .ok (.iload 4, 2) := by decide +kernel
theorem dX6_takeAct_7 : decode cX6_takeAct 7 = .ok (.invokevirtual 106, 3) := by decide +kernel
theorem dX6_takeAct_10 : decode cX6_takeAct 10 = .ok (.ifCond .eq 23, 3) := by decide +kernel
theorem dX6_takeAct_13 : decode cX6_takeAct 13 = .ok (.aload_n 0, 1) := by decide +kernel
theorem dX6_takeAct_14 : decode cX6_takeAct 14 = .ok (.iload_n 1, 1) := by decide +kernel
theorem dX6_takeAct_15 : decode cX6_takeAct 15 = .ok (.iload_n 2, 1) := by decide +kernel
theorem dX6_takeAct_16 : decode cX6_takeAct 16 = .ok (.aload_n 0, 1) := by decide +kernel
theorem dX6_takeAct_17 : decode cX6_takeAct 17 = .ok (.getfield 21, 3) := by decide +kernel
theorem dX6_takeAct_20 : decode cX6_takeAct 20 = .ok (.getfield 110, 3) := by decide +kernel
theorem dX6_takeAct_23 : decode cX6_takeAct 23 = .ok (.invokevirtual 102, 3) := by decide +kernel
theorem dX6_takeAct_26 : decode cX6_takeAct 26 = .ok (.ifCond .eq 7, 3) := by decide +kernel
theorem dX6_takeAct_29 : decode cX6_takeAct 29 = .ok (.iconst 1, 1) := by decide +kernel
theorem dX6_takeAct_30 : decode cX6_takeAct 30 = .ok (.goto 4, 3) := by decide +kernel
theorem dX6_takeAct_33 : decode cX6_takeAct 33 = .ok (.iconst 0, 1) := by decide +kernel
theorem dX6_takeAct_34 : decode cX6_takeAct 34 = .ok (.ireturn, 1) := by decide +kernel
theorem dX6_note_0 : decode cX6_note 0 = .ok (.aload_n 0, 1) := by decide +kernel
theorem dX6_note_1 : decode cX6_note 1 = .ok (.getfield 11, 3) := by decide +kernel
theorem dX6_note_4 : decode cX6_note 4 = .ok (.aload_n 0, 1) := by decide +kernel
theorem dX6_note_5 : decode cX6_note 5 = .ok (.getfield 35, 3) := by decide +kernel
theorem dX6_note_8 : decode cX6_note 8 = .ok (.iload_n 1, 1) := by decide +kernel
theorem dX6_note_9 : decode cX6_note 9 = .ok (.iastore, 1) := by decide +kernel
theorem dX6_note_10 : decode cX6_note 10 = .ok (.aload_n 0, 1) := by decide +kernel
theorem dX6_note_11 : decode cX6_note 11 = .ok (.getfield 15, 3) := by decide +kernel
theorem dX6_note_14 : decode cX6_note 14 = .ok (.aload_n 0, 1) := by decide +kernel
theorem dX6_note_15 : decode cX6_note 15 = .ok (.getfield 35, 3) := by decide +kernel
theorem dX6_note_18 : decode cX6_note 18 = .ok (.iload_n 2, 1) := by decide +kernel
theorem dX6_note_19 : decode cX6_note 19 = .ok (.iastore, 1) := by decide +kernel
theorem dX6_note_20 : decode cX6_note 20 = .ok (.aload_n 0, 1) := by decide +kernel
theorem dX6_note_21 : decode cX6_note 21 = .ok (.getfield 18, 3) := by decide +kernel
theorem dX6_note_24 : decode cX6_note 24 = .ok (.aload_n 0, 1) := by decide +kernel
theorem dX6_note_25 : decode cX6_note 25 = .ok (.getfield 35, 3) := by decide +kernel
theorem dX6_note_28 : decode cX6_note 28 = .ok (.iload_n 3, 1) := by decide +kernel
theorem dX6_note_29 : decode cX6_note 29 = .ok (.iastore, 1) := by decide +kernel
theorem dX6_note_30 : decode cX6_note 30 = .ok (.iconst 1, 1) := by decide +kernel
theorem dX6_note_31 : decode cX6_note 31 = .ok (.ireturn, 1) := by decide +kernel
theorem dX6_judge_0 : decode cX6_judge 0 = .ok (.aload_n 0, 1) := by decide +kernel
theorem dX6_judge_1 : decode cX6_judge 1 = .ok (.iconst 1, 1) := by decide +kernel
theorem dX6_judge_2 : decode cX6_judge 2 = .ok (.putfield 113, 3) := by decide +kernel
theorem dX6_judge_5 : decode cX6_judge 5 = .ok (.aload_n 0, 1) := by decide +kernel
theorem dX6_judge_6 : decode cX6_judge 6 = .ok (.iconst 0, 1) := by decide +kernel
theorem dX6_judge_7 : decode cX6_judge 7 = .ok (.putfield 117, 3) := by decide +kernel
theorem dX6_judge_10 : decode cX6_judge 10 = .ok (.aload_n 0, 1) := by decide +kernel
theorem dX6_judge_11 : decode cX6_judge 11 = .ok (.iconst 0, 1) := by decide +kernel
theorem dX6_judge_12 : decode cX6_judge 12 = .ok (.putfield 120, 3) := by decide +kernel
theorem dX6_judge_15 : decode cX6_judge 15 = .ok (.aload_n 0, 1) := by decide +kernel
theorem dX6_judge_16 : decode cX6_judge 16 = .ok (.getfield 117, 3) := by decide +kernel
theorem dX6_judge_19 : decode cX6_judge 19 = .ok (.ifCond .ne 129, 3) := by decide +kernel
theorem dX6_judge_22 : decode cX6_judge 22 = .ok (.aload_n 0, 1) := by decide +kernel
theorem dX6_judge_23 : decode cX6_judge 23 = .ok (.getfield 120, 3) := by decide +kernel
theorem dX6_judge_26 : decode cX6_judge 26 = .ok (.aload_n 0, 1) := by decide +kernel
theorem dX6_judge_27 : decode cX6_judge 27 = .ok (.getfield 35, 3) := by decide +kernel
theorem dX6_judge_30 : decode cX6_judge 30 = .ok (.if_icmp .ge 118, 3) := by decide +kernel
theorem dX6_judge_33 : decode cX6_judge 33 = .ok (.aload_n 0, 1) := by decide +kernel
theorem dX6_judge_34 : decode cX6_judge 34 = .ok (.getfield 120, 3) := by decide +kernel
theorem dX6_judge_37 : decode cX6_judge 37 = .ok (.bipush 40, 2) := by decide +kernel
theorem dX6_judge_39 : decode cX6_judge 39 = .ok (.if_icmp .ge 109, 3) := by decide +kernel
theorem dX6_judge_42 : decode cX6_judge 42 = .ok (.aload_n 0, 1) := by decide +kernel
theorem dX6_judge_43 : decode cX6_judge 43 = .ok (.getfield 11, 3) := by decide +kernel
theorem dX6_judge_46 : decode cX6_judge 46 = .ok (.aload_n 0, 1) := by decide +kernel
theorem dX6_judge_47 : decode cX6_judge 47 = .ok (.getfield 120, 3) := by decide +kernel
theorem dX6_judge_50 : decode cX6_judge 50 = .ok (.iaload, 1) := by decide +kernel
theorem dX6_judge_51 : decode cX6_judge 51 = .ok (.istore_n 2, 1) := by decide +kernel
theorem dX6_judge_52 : decode cX6_judge 52 = .ok (.aload_n 0, 1) := by decide +kernel
theorem dX6_judge_53 : decode cX6_judge 53 = .ok (.getfield 15, 3) := by decide +kernel
theorem dX6_judge_56 : decode cX6_judge 56 = .ok (.aload_n 0, 1) := by decide +kernel
theorem dX6_judge_57 : decode cX6_judge 57 = .ok (.getfield 120, 3) := by decide +kernel
theorem dX6_judge_60 : decode cX6_judge 60 = .ok (.iaload, 1) := by decide +kernel
theorem dX6_judge_61 : decode cX6_judge 61 = .ok (.istore_n 3, 1) := by decide +kernel
theorem dX6_judge_62 : decode cX6_judge 62 = .ok (.aload_n 0, 1) := by decide +kernel
theorem dX6_judge_63 : decode cX6_judge 63 = .ok (.getfield 18, 3) := by decide +kernel
theorem dX6_judge_66 : decode cX6_judge 66 = .ok (.aload_n 0, 1) := by decide +kernel
theorem dX6_judge_67 : decode cX6_judge 67 = .ok (.getfield 120, 3) := by decide +kernel
theorem dX6_judge_70 : decode cX6_judge 70 = .ok (.iaload, 1) := by decide +kernel
theorem dX6_judge_71 : decode cX6_judge 71 = .ok (.istore 4, 2) := by decide +kernel
theorem dX6_judge_73 : decode cX6_judge 73 = .ok (.aload_n 1, 1) := by decide +kernel
theorem dX6_judge_74 : decode cX6_judge 74 = .ok (.iload_n 2, 1) := by decide +kernel
theorem dX6_judge_75 : decode cX6_judge 75 = .ok (.iload_n 3, 1) := by decide +kernel
theorem dX6_judge_76 : decode cX6_judge 76 = .ok (.iload 4, 2) := by decide +kernel
theorem dX6_judge_78 : decode cX6_judge 78 = .ok (.invokevirtual 123, 3) := by decide +kernel
theorem dX6_judge_81 : decode cX6_judge 81 = .ok (.istore 5, 2) := by decide +kernel
theorem dX6_judge_83 : decode cX6_judge 83 = .ok (.iload 5, 2) := by decide +kernel
theorem dX6_judge_85 : decode cX6_judge 85 = .ok (.ifCond .eq 17, 3) := by decide +kernel
theorem dX6_judge_88 : decode cX6_judge 88 = .ok (.aload_n 0, 1) := by decide +kernel
theorem dX6_judge_89 : decode cX6_judge 89 = .ok (.bipush 10, 2) := by decide +kernel
theorem dX6_judge_91 : decode cX6_judge 91 = .ok (.iload_n 2, 1) := by decide +kernel
theorem dX6_judge_92 : decode cX6_judge 92 = .ok (.imul, 1) := by decide +kernel
theorem dX6_judge_93 : decode cX6_judge 93 = .ok (.iload 5, 2) := by decide +kernel
theorem dX6_judge_95 : decode cX6_judge 95 = .ok (.iadd, 1) := by decide +kernel
theorem dX6_judge_96 : decode cX6_judge 96 = .ok (.putfield 117, 3) := by decide +kernel
theorem dX6_judge_99 : decode cX6_judge 99 = .ok (.goto 46, 3) := by decide +kernel
theorem dX6_judge_102 : decode cX6_judge 102 = .ok (.iload_n 2, 1) := by decide +kernel
theorem dX6_judge_103 : decode cX6_judge 103 = .ok (.bipush 6, 2) := by decide +kernel
theorem dX6_judge_105 : decode cX6_judge 105 = .ok (.if_icmp .ne 22, 3) := by decide +kernel
theorem dX6_judge_108 : decode cX6_judge 108 = .ok (.aload_n 1, 1) := by decide +kernel
theorem dX6_judge_109 : decode cX6_judge 109 = .ok (.iload 4, 2) := by decide +kernel
theorem dX6_judge_111 : decode cX6_judge 111 = .ok (.invokevirtual 127, 3) := by decide +kernel
theorem dX6_judge_114 : decode cX6_judge 114 = .ok (.aload_n 0, 1) := by decide +kernel
theorem dX6_judge_115 : decode cX6_judge 115 = .ok (.dup, 1) := by decide +kernel
theorem dX6_judge_116 : decode cX6_judge 116 = .ok (.getfield 120, 3) := by decide +kernel
theorem dX6_judge_119 : decode cX6_judge 119 = .ok (.iconst 1, 1) := by decide +kernel
theorem dX6_judge_120 : decode cX6_judge 120 = .ok (.iadd, 1) := by decide +kernel
theorem dX6_judge_121 : decode cX6_judge 121 = .ok (.putfield 120, 3) := by decide +kernel
theorem dX6_judge_124 : decode cX6_judge 124 = .ok (.goto 21, 3) := by decide +kernel
theorem dX6_judge_127 : decode cX6_judge 127 = .ok (.aload_n 1, 1) := by decide +kernel
theorem dX6_judge_128 : decode cX6_judge 128 = .ok (.iload_n 2, 1) := by decide +kernel
theorem dX6_judge_129 : decode cX6_judge 129 = .ok (.iload_n 3, 1) := by decide +kernel
theorem dX6_judge_130 : decode cX6_judge 130 = .ok (.iload 4, 2) := by decide +kernel
theorem dX6_judge_132 : decode cX6_judge 132 = .ok (.invokevirtual 130, 3) := by decide +kernel
theorem dX6_judge_135 : decode cX6_judge 135 = .ok (.aload_n 0, 1) := by decide +kernel
theorem dX6_judge_136 : decode cX6_judge 136 = .ok (.dup, 1) := by decide +kernel
theorem dX6_judge_137 : decode cX6_judge 137 = .ok (.getfield 120, 3) := by decide +kernel
theorem dX6_judge_140 : decode cX6_judge 140 = .ok (.iconst 1, 1) := by decide +kernel
theorem dX6_judge_141 : decode cX6_judge 141 = .ok (.iadd, 1) := by decide +kernel
theorem dX6_judge_142 : decode cX6_judge 142 = .ok (.putfield 120, 3) := by decide +kernel
theorem dX6_judge_145 : decode cX6_judge 145 = .ok (.goto (-130), 3) := by decide +kernel
theorem dX6_judge_148 : decode cX6_judge 148 = .ok (.aload_n 0, 1) := by decide +kernel
theorem dX6_judge_149 : decode cX6_judge 149 = .ok (.aload_n 1, 1) := by decide +kernel
theorem dX6_judge_150 : decode cX6_judge 150 = .ok (.getfield 134, 3) := by decide +kernel
theorem dX6_judge_153 : decode cX6_judge 153 = .ok (.putfield 137, 3) := by decide +kernel
theorem dX6_judge_156 : decode cX6_judge 156 = .ok (.aload_n 0, 1) := by decide +kernel
theorem dX6_judge_157 : decode cX6_judge 157 = .ok (.aload_n 1, 1) := by decide +kernel
theorem dX6_judge_158 : decode cX6_judge 158 = .ok (.getfield 140, 3) := by decide +kernel
theorem dX6_judge_161 : decode cX6_judge 161 = .ok (.putfield 143, 3) := by decide +kernel
theorem dX6_judge_164 : decode cX6_judge 164 = .ok (.aload_n 0, 1) := by decide +kernel
theorem dX6_judge_165 : decode cX6_judge 165 = .ok (.getfield 117, 3) := by decide +kernel
theorem dX6_judge_168 : decode cX6_judge 168 = .ok (.ifCond .ne 7, 3) := by decide +kernel
theorem dX6_judge_171 : decode cX6_judge 171 = .ok (.iconst (-1), 1) := by decide +kernel
theorem dX6_judge_172 : decode cX6_judge 172 = .ok (.goto 7, 3) := by decide +kernel
theorem dX6_judge_175 : decode cX6_judge 175 = .ok (.aload_n 0, 1) := by decide +kernel
theorem dX6_judge_176 : decode cX6_judge 176 = .ok (.getfield 120, 3) := by decide +kernel
theorem dX6_judge_179 : decode cX6_judge 179 = .ok (.ireturn, 1) := by decide +kernel
theorem dX6_told_0 : decode cX6_told 0 = .ok (.aload_n 0, 1) := by decide +kernel
theorem dX6_told_1 : decode cX6_told 1 = .ok (.getfield 113, 3) := by decide +kernel
theorem dX6_told_4 : decode cX6_told 4 = .ok (.ifCond .ne 5, 3) := by decide +kernel
theorem dX6_told_7 : decode cX6_told 7 = .ok (.iconst (-1), 1) := by decide +kernel
theorem dX6_told_8 : decode cX6_told 8 = .ok (.ireturn, 1) := by decide +kernel
theorem dX6_told_9 : decode cX6_told 9 = .ok (.iload_n 1, 1) := by decide +kernel
theorem dX6_told_10 : decode cX6_told 10 = .ok (.tableswitch 50 0 3 #[30, 35, 40, 45], 30) := by decide +kernel
theorem dX6_told_40 : decode cX6_told 40 = .ok (.aload_n 0, 1) := by decide +kernel
theorem dX6_told_41 : decode cX6_told 41 = .ok (.getfield 117, 3) := by decide +kernel
theorem dX6_told_44 : decode cX6_told 44 = .ok (.ireturn, 1) := by decide +kernel
theorem dX6_told_45 : decode cX6_told 45 = .ok (.aload_n 0, 1) := by decide +kernel
theorem dX6_told_46 : decode cX6_told 46 = .ok (.getfield 120, 3) := by decide +kernel
theorem dX6_told_49 : decode cX6_told 49 = .ok (.ireturn, 1) := by decide +kernel
theorem dX6_told_50 : decode cX6_told 50 = .ok (.aload_n 0, 1) := by decide +kernel
theorem dX6_told_51 : decode cX6_told 51 = .ok (.getfield 137, 3) := by decide +kernel
theorem dX6_told_54 : decode cX6_told 54 = .ok (.ireturn, 1) := by decide +kernel
theorem dX6_told_55 : decode cX6_told 55 = .ok (.aload_n 0, 1) := by decide +kernel
theorem dX6_told_56 : decode cX6_told 56 = .ok (.getfield 143, 3) := by decide +kernel
theorem dX6_told_59 : decode cX6_told 59 = .ok (.ireturn, 1) := by decide +kernel
theorem dX6_told_60 : decode cX6_told 60 = .ok (.iconst (-1), 1) := by decide +kernel
theorem dX6_told_61 : decode cX6_told 61 = .ok (.ireturn, 1) := by decide +kernel
theorem dX7_init_0 : decode cX7_init 0 = .ok (.aload_n 0, 1) := by decide +kernel
theorem dX7_init_1 : decode cX7_init 1 = .ok (.invokespecial 5, 3) := by decide +kernel
theorem dX7_init_4 : decode cX7_init 4 = .ok (.aload_n 0, 1) := by decide +kernel
theorem dX7_init_5 : decode cX7_init 5 = .ok (.bipush 40, 2) := by decide +kernel
theorem dX7_init_7 : decode cX7_init 7 = .ok (.anewarray 11, 3) := by decide +kernel
theorem dX7_init_10 : decode cX7_init 10 = .ok (.putfield 13, 3) := by decide +kernel
theorem dX7_init_13 : decode cX7_init 13 = .ok (.aload_n 0, 1) := by decide +kernel
theorem dX7_init_14 : decode cX7_init 14 = .ok (.bipush 40, 2) := by decide +kernel
theorem dX7_init_16 : decode cX7_init 16 = .ok (.newarray .int, 2) := by decide +kernel
theorem dX7_init_18 : decode cX7_init 18 = .ok (.putfield 17, 3) := by decide +kernel
theorem dX7_init_21 : decode cX7_init 21 = .ok (.aload_n 0, 1) := by decide +kernel
theorem dX7_init_22 : decode cX7_init 22 = .ok (.bipush 40, 2) := by decide +kernel
theorem dX7_init_24 : decode cX7_init 24 = .ok (.newarray .int, 2) := by decide +kernel
theorem dX7_init_26 : decode cX7_init 26 = .ok (.putfield 21, 3) := by decide +kernel
theorem dX7_init_29 : decode cX7_init 29 = .ok (.iconst 0, 1) := by decide +kernel
theorem dX7_init_30 : decode cX7_init 30 = .ok (.istore_n 1, 1) := by decide +kernel
theorem dX7_init_31 : decode cX7_init 31 = .ok (.iload_n 1, 1) := by decide +kernel
theorem dX7_init_32 : decode cX7_init 32 = .ok (.bipush 40, 2) := by decide +kernel
theorem dX7_init_34 : decode cX7_init 34 = .ok (.if_icmp .ge 18, 3) := by decide +kernel
theorem dX7_init_37 : decode cX7_init 37 = .ok (.aload_n 0, 1) := by decide +kernel
theorem dX7_init_38 : decode cX7_init 38 = .ok (.getfield 13, 3) := by decide +kernel
theorem dX7_init_41 : decode cX7_init 41 = .ok (.iload_n 1, 1) := by decide +kernel
theorem dX7_init_42 : decode cX7_init 42 = .ok (.getstatic 24, 3) := by decide +kernel
theorem dX7_init_45 : decode cX7_init 45 = .ok (.aastore, 1) := by decide +kernel
theorem dX7_init_46 : decode cX7_init 46 = .ok (.iinc 1 1, 3) := by decide +kernel
theorem dX7_init_49 : decode cX7_init 49 = .ok (.goto (-18), 3) := by decide +kernel
theorem dX7_init_52 : decode cX7_init 52 = .ok (.return_, 1) := by decide +kernel
theorem dX7_forget_0 : decode cX7_forget 0 = .ok (.aload_n 0, 1) := by decide +kernel
theorem dX7_forget_1 : decode cX7_forget 1 = .ok (.iconst 0, 1) := by decide +kernel
theorem dX7_forget_2 : decode cX7_forget 2 = .ok (.putfield 28, 3) := by decide +kernel
theorem dX7_forget_5 : decode cX7_forget 5 = .ok (.aload_n 0, 1) := by decide +kernel
theorem dX7_forget_6 : decode cX7_forget 6 = .ok (.iconst 0, 1) := by decide +kernel
theorem dX7_forget_7 : decode cX7_forget 7 = .ok (.putfield 32, 3) := by decide +kernel
theorem dX7_forget_10 : decode cX7_forget 10 = .ok (.return_, 1) := by decide +kernel
theorem dX7_copyFrom_0 : decode cX7_copyFrom 0 = .ok (.iconst 0, 1) := by decide +kernel
theorem dX7_copyFrom_1 : decode cX7_copyFrom 1 = .ok (.istore_n 2, 1) := by decide +kernel
theorem dX7_copyFrom_2 : decode cX7_copyFrom 2 = .ok (.iload_n 2, 1) := by decide +kernel
theorem dX7_copyFrom_3 : decode cX7_copyFrom 3 = .ok (.bipush 40, 2) := by decide +kernel
theorem dX7_copyFrom_5 : decode cX7_copyFrom 5 = .ok (.if_icmp .ge 45, 3) := by decide +kernel
theorem dX7_copyFrom_8 : decode cX7_copyFrom 8 = .ok (.aload_n 0, 1) := by decide +kernel
theorem dX7_copyFrom_9 : decode cX7_copyFrom 9 = .ok (.getfield 13, 3) := by decide +kernel
theorem dX7_copyFrom_12 : decode cX7_copyFrom 12 = .ok (.iload_n 2, 1) := by decide +kernel
theorem dX7_copyFrom_13 : decode cX7_copyFrom 13 = .ok (.aload_n 1, 1) := by decide +kernel
theorem dX7_copyFrom_14 : decode cX7_copyFrom 14 = .ok (.getfield 13, 3) := by decide +kernel
theorem dX7_copyFrom_17 : decode cX7_copyFrom 17 = .ok (.iload_n 2, 1) := by decide +kernel
theorem dX7_copyFrom_18 : decode cX7_copyFrom 18 = .ok (.aaload, 1) := by decide +kernel
theorem dX7_copyFrom_19 : decode cX7_copyFrom 19 = .ok (.aastore, 1) := by decide +kernel
theorem dX7_copyFrom_20 : decode cX7_copyFrom 20 = .ok (.aload_n 0, 1) := by decide +kernel
theorem dX7_copyFrom_21 : decode cX7_copyFrom 21 = .ok (.getfield 17, 3) := by decide +kernel
theorem dX7_copyFrom_24 : decode cX7_copyFrom 24 = .ok (.iload_n 2, 1) := by decide +kernel
theorem dX7_copyFrom_25 : decode cX7_copyFrom 25 = .ok (.aload_n 1, 1) := by decide +kernel
theorem dX7_copyFrom_26 : decode cX7_copyFrom 26 = .ok (.getfield 17, 3) := by decide +kernel
theorem dX7_copyFrom_29 : decode cX7_copyFrom 29 = .ok (.iload_n 2, 1) := by decide +kernel
theorem dX7_copyFrom_30 : decode cX7_copyFrom 30 = .ok (.iaload, 1) := by decide +kernel
theorem dX7_copyFrom_31 : decode cX7_copyFrom 31 = .ok (.iastore, 1) := by decide +kernel
theorem dX7_copyFrom_32 : decode cX7_copyFrom 32 = .ok (.aload_n 0, 1) := by decide +kernel
theorem dX7_copyFrom_33 : decode cX7_copyFrom 33 = .ok (.getfield 21, 3) := by decide +kernel
theorem dX7_copyFrom_36 : decode cX7_copyFrom 36 = .ok (.iload_n 2, 1) := by decide +kernel
theorem dX7_copyFrom_37 : decode cX7_copyFrom 37 = .ok (.aload_n 1, 1) := by decide +kernel
theorem dX7_copyFrom_38 : decode cX7_copyFrom 38 = .ok (.getfield 21, 3) := by decide +kernel
theorem dX7_copyFrom_41 : decode cX7_copyFrom 41 = .ok (.iload_n 2, 1) := by decide +kernel
theorem dX7_copyFrom_42 : decode cX7_copyFrom 42 = .ok (.iaload, 1) := by decide +kernel
theorem dX7_copyFrom_43 : decode cX7_copyFrom 43 = .ok (.iastore, 1) := by decide +kernel
theorem dX7_copyFrom_44 : decode cX7_copyFrom 44 = .ok (.iinc 2 1, 3) := by decide +kernel
theorem dX7_copyFrom_47 : decode cX7_copyFrom 47 = .ok (.goto (-45), 3) := by decide +kernel
theorem dX7_copyFrom_50 : decode cX7_copyFrom 50 = .ok (.aload_n 0, 1) := by decide +kernel
theorem dX7_copyFrom_51 : decode cX7_copyFrom 51 = .ok (.aload_n 1, 1) := by decide +kernel
theorem dX7_copyFrom_52 : decode cX7_copyFrom 52 = .ok (.getfield 32, 3) := by decide +kernel
theorem dX7_copyFrom_55 : decode cX7_copyFrom 55 = .ok (.putfield 32, 3) := by decide +kernel
theorem dX7_copyFrom_58 : decode cX7_copyFrom 58 = .ok (.aload_n 0, 1) := by decide +kernel
theorem dX7_copyFrom_59 : decode cX7_copyFrom 59 = .ok (.aload_n 1, 1) := by decide +kernel
theorem dX7_copyFrom_60 : decode cX7_copyFrom 60 = .ok (.getfield 28, 3) := by decide +kernel
theorem dX7_copyFrom_63 : decode cX7_copyFrom 63 = .ok (.putfield 28, 3) := by decide +kernel
theorem dX7_copyFrom_66 : decode cX7_copyFrom 66 = .ok (.return_, 1) := by decide +kernel
theorem dX7_read_0 : decode cX7_read 0 = .ok (.aload_n 0, 1) := by decide +kernel
theorem dX7_read_1 : decode cX7_read 1 = .ok (.invokevirtual 35, 3) := by decide +kernel
theorem dX7_read_4 : decode cX7_read 4 = .ok (.aload_n 1, 1) := by decide +kernel
theorem dX7_read_5 : decode cX7_read 5 = .ok (.sipush 200, 3) := by decide +kernel
theorem dX7_read_8 : decode cX7_read 8 = .ok (.invokevirtual 38, 3) := by decide +kernel
theorem dX7_read_11 : decode cX7_read 11 = .ok (.aload_n 1, 1) := by decide +kernel
theorem dX7_read_12 : decode cX7_read 12 = .ok (.invokevirtual 44, 3) := by decide +kernel
theorem dX7_read_15 : decode cX7_read 15 = .ok (.aload_n 0, 1) := by decide +kernel
theorem dX7_read_16 : decode cX7_read 16 = .ok (.aload_n 1, 1) := by decide +kernel
theorem dX7_read_17 : decode cX7_read 17 = .ok (.aload_n 2, 1) := by decide +kernel
theorem dX7_read_18 : decode cX7_read 18 = .ok (.iconst 0, 1) := by decide +kernel
theorem dX7_read_19 : decode cX7_read 19 = .ok (.invokevirtual 47, 3) := by decide +kernel
theorem dX7_read_22 : decode cX7_read 22 = .ok (.ifCond .ne 5, 3) := by decide +kernel
theorem dX7_read_25 : decode cX7_read 25 = .ok (.iconst 0, 1) := by decide +kernel
theorem dX7_read_26 : decode cX7_read 26 = .ok (.ireturn, 1) := by decide +kernel
theorem dX7_read_27 : decode cX7_read 27 = .ok (.aload_n 1, 1) := by decide +kernel
theorem dX7_read_28 : decode cX7_read 28 = .ok (.getfield 51, 3) := by decide +kernel
theorem dX7_read_31 : decode cX7_read 31 = .ok (.ifCond .eq 11, 3) := by decide +kernel
theorem dX7_read_34 : decode cX7_read 34 = .ok (.aload_n 1, 1) := by decide +kernel
theorem dX7_read_35 : decode cX7_read 35 = .ok (.iconst 1, 1) := by decide +kernel
theorem dX7_read_36 : decode cX7_read 36 = .ok (.invokevirtual 54, 3) := by decide +kernel
theorem dX7_read_39 : decode cX7_read 39 = .ok (.ifCond .eq 7, 3) := by decide +kernel
theorem dX7_read_42 : decode cX7_read 42 = .ok (.iconst 1, 1) := by decide +kernel
theorem dX7_read_43 : decode cX7_read 43 = .ok (.goto 4, 3) := by decide +kernel
theorem dX7_read_46 : decode cX7_read 46 = .ok (.iconst 0, 1) := by decide +kernel
theorem dX7_read_47 : decode cX7_read 47 = .ok (.ireturn, 1) := by decide +kernel
theorem dX7_readCond_0 : decode cX7_readCond 0 = .ok (.aload_n 0, 1) := by decide +kernel
theorem dX7_readCond_1 : decode cX7_readCond 1 = .ok (.aload_n 1, 1) := by decide +kernel
theorem dX7_readCond_2 : decode cX7_readCond 2 = .ok (.aload_n 2, 1) := by decide +kernel
theorem dX7_readCond_3 : decode cX7_readCond 3 = .ok (.iload_n 3, 1) := by decide +kernel
theorem dX7_readCond_4 : decode cX7_readCond 4 = .ok (.invokevirtual 58, 3) := by decide +kernel
theorem dX7_readCond_7 : decode cX7_readCond 7 = .ok (.ifCond .ne 5, 3) := by decide +kernel
theorem dX7_readCond_10 : decode cX7_readCond 10 = .ok (.iconst 0, 1) := by decide +kernel
theorem dX7_readCond_11 : decode cX7_readCond 11 = .ok (.ireturn, 1) := by decide +kernel
theorem dX7_readCond_12 : decode cX7_readCond 12 = .ok (.iconst 0, 1) := by decide +kernel
theorem dX7_readCond_13 : decode cX7_readCond 13 = .ok (.istore 4, 2) := by decide +kernel
theorem dX7_readCond_15 : decode cX7_readCond 15 = .ok (.iload 4, 2) := by decide +kernel
theorem dX7_readCond_17 : decode cX7_readCond 17 = .ok (.bipush 20, 2) := by decide +kernel
theorem dX7_readCond_19 : decode cX7_readCond 19 = .ok (.if_icmp .ge 45, 3) := by decide +kernel
theorem dX7_readCond_22 : decode cX7_readCond 22 = .ok (.aload_n 1, 1) := by decide +kernel
theorem dX7_readCond_23 : decode cX7_readCond 23 = .ok (.getfield 61, 3) := by decide +kernel
theorem dX7_readCond_26 : decode cX7_readCond 26 = .ok (.getstatic 64, 3) := by decide +kernel
theorem dX7_readCond_29 : decode cX7_readCond 29 = .ok (.if_acmp .ne 35, 3) := by decide +kernel
theorem dX7_readCond_32 : decode cX7_readCond 32 = .ok (.aload_n 1, 1) := by decide +kernel
theorem dX7_readCond_33 : decode cX7_readCond 33 = .ok (.invokevirtual 44, 3) := by decide +kernel
theorem dX7_readCond_36 : decode cX7_readCond 36 = .ok (.aload_n 0, 1) := by decide +kernel
theorem dX7_readCond_37 : decode cX7_readCond 37 = .ok (.aload_n 1, 1) := by decide +kernel
theorem dX7_readCond_38 : decode cX7_readCond 38 = .ok (.aload_n 2, 1) := by decide +kernel
theorem dX7_readCond_39 : decode cX7_readCond 39 = .ok (.iload_n 3, 1) := by decide +kernel
theorem dX7_readCond_40 : decode cX7_readCond 40 = .ok (.invokevirtual 58, 3) := by decide +kernel
theorem dX7_readCond_43 : decode cX7_readCond 43 = .ok (.ifCond .ne 5, 3) := by decide +kernel
theorem dX7_readCond_46 : decode cX7_readCond 46 = .ok (.iconst 0, 1) := by decide +kernel
theorem dX7_readCond_47 : decode cX7_readCond 47 = .ok (.ireturn, 1) := by decide +kernel
theorem dX7_readCond_48 : decode cX7_readCond 48 = .ok (.aload_n 0, 1) := by decide +kernel
theorem dX7_readCond_49 : decode cX7_readCond 49 = .ok (.getstatic 64, 3) := by decide +kernel
theorem dX7_readCond_52 : decode cX7_readCond 52 = .ok (.iconst 0, 1) := by decide +kernel
theorem dX7_readCond_53 : decode cX7_readCond 53 = .ok (.iconst 0, 1) := by decide +kernel
theorem dX7_readCond_54 : decode cX7_readCond 54 = .ok (.invokevirtual 67, 3) := by decide +kernel
theorem dX7_readCond_57 : decode cX7_readCond 57 = .ok (.pop, 1) := by decide +kernel
theorem dX7_readCond_58 : decode cX7_readCond 58 = .ok (.iinc 4 1, 3) := by decide +kernel
theorem dX7_readCond_61 : decode cX7_readCond 61 = .ok (.goto (-46), 3) := by decide +kernel
theorem dX7_readCond_64 : decode cX7_readCond 64 = .ok (.iconst 1, 1) := by decide +kernel
theorem dX7_readCond_65 : decode cX7_readCond 65 = .ok (.ireturn, 1) := by decide +kernel
theorem dX7_readAll_0 : decode cX7_readAll 0 = .ok (.aload_n 0, 1) := by decide +kernel
theorem dX7_readAll_1 : decode cX7_readAll 1 = .ok (.aload_n 1, 1) := by decide +kernel
theorem dX7_readAll_2 : decode cX7_readAll 2 = .ok (.aload_n 2, 1) := by decide +kernel
theorem dX7_readAll_3 : decode cX7_readAll 3 = .ok (.iload_n 3, 1) := by decide +kernel
theorem dX7_readAll_4 : decode cX7_readAll 4 = .ok (.invokevirtual 71, 3) := by decide +kernel
theorem dX7_readAll_7 : decode cX7_readAll 7 = .ok (.ifCond .ne 5, 3) := by decide +kernel
theorem dX7_readAll_10 : decode cX7_readAll 10 = .ok (.iconst 0, 1) := by decide +kernel
theorem dX7_readAll_11 : decode cX7_readAll 11 = .ok (.ireturn, 1) := by decide +kernel
theorem dX7_readAll_12 : decode cX7_readAll 12 = .ok (.iconst 0, 1) := by decide +kernel
theorem dX7_readAll_13 : decode cX7_readAll 13 = .ok (.istore 4, 2) := by decide +kernel
theorem dX7_readAll_15 : decode cX7_readAll 15 = .ok (.iload 4, 2) := by decide +kernel
theorem dX7_readAll_17 : decode cX7_readAll 17 = .ok (.bipush 20, 2) := by decide +kernel
theorem dX7_readAll_19 : decode cX7_readAll 19 = .ok (.if_icmp .ge 45, 3) := by decide +kernel
theorem dX7_readAll_22 : decode cX7_readAll 22 = .ok (.aload_n 1, 1) := by decide +kernel
theorem dX7_readAll_23 : decode cX7_readAll 23 = .ok (.getfield 61, 3) := by decide +kernel
theorem dX7_readAll_26 : decode cX7_readAll 26 = .ok (.getstatic 74, 3) := by decide +kernel
theorem dX7_readAll_29 : decode cX7_readAll 29 = .ok (.if_acmp .ne 35, 3) := by decide +kernel
theorem dX7_readAll_32 : decode cX7_readAll 32 = .ok (.aload_n 1, 1) := by decide +kernel
theorem dX7_readAll_33 : decode cX7_readAll 33 = .ok (.invokevirtual 44, 3) := by decide +kernel
theorem dX7_readAll_36 : decode cX7_readAll 36 = .ok (.aload_n 0, 1) := by decide +kernel
theorem dX7_readAll_37 : decode cX7_readAll 37 = .ok (.aload_n 1, 1) := by decide +kernel
theorem dX7_readAll_38 : decode cX7_readAll 38 = .ok (.aload_n 2, 1) := by decide +kernel
theorem dX7_readAll_39 : decode cX7_readAll 39 = .ok (.iload_n 3, 1) := by decide +kernel
theorem dX7_readAll_40 : decode cX7_readAll 40 = .ok (.invokevirtual 71, 3) := by decide +kernel
theorem dX7_readAll_43 : decode cX7_readAll 43 = .ok (.ifCond .ne 5, 3) := by decide +kernel
theorem dX7_readAll_46 : decode cX7_readAll 46 = .ok (.iconst 0, 1) := by decide +kernel
theorem dX7_readAll_47 : decode cX7_readAll 47 = .ok (.ireturn, 1) := by decide +kernel
theorem dX7_readAll_48 : decode cX7_readAll 48 = .ok (.aload_n 0, 1) := by decide +kernel
theorem dX7_readAll_49 : decode cX7_readAll 49 = .ok (.getstatic 74, 3) := by decide +kernel
theorem dX7_readAll_52 : decode cX7_readAll 52 = .ok (.iconst 0, 1) := by decide +kernel
theorem dX7_readAll_53 : decode cX7_readAll 53 = .ok (.iconst 0, 1) := by decide +kernel
theorem dX7_readAll_54 : decode cX7_readAll 54 = .ok (.invokevirtual 67, 3) := by decide +kernel
theorem dX7_readAll_57 : decode cX7_readAll 57 = .ok (.pop, 1) := by decide +kernel
theorem dX7_readAll_58 : decode cX7_readAll 58 = .ok (.iinc 4 1, 3) := by decide +kernel
theorem dX7_readAll_61 : decode cX7_readAll 61 = .ok (.goto (-46), 3) := by decide +kernel
theorem dX7_readAll_64 : decode cX7_readAll 64 = .ok (.iconst 1, 1) := by decide +kernel
theorem dX7_readAll_65 : decode cX7_readAll 65 = .ok (.ireturn, 1) := by decide +kernel
theorem dX7_readOne_0 : decode cX7_readOne 0 = .ok (.aload_n 1, 1) := by decide +kernel
theorem dX7_readOne_1 : decode cX7_readOne 1 = .ok (.getfield 51, 3) := by decide +kernel
theorem dX7_readOne_4 : decode cX7_readOne 4 = .ok (.bipush 40, 2) := by decide +kernel
theorem dX7_readOne_6 : decode cX7_readOne 6 = .ok (.if_icmp .ne 7, 3) := by decide +kernel
theorem dX7_readOne_9 : decode cX7_readOne 9 = .ok (.iconst 1, 1) := by decide +kernel
theorem dX7_readOne_10 : decode cX7_readOne 10 = .ok (.goto 4, 3) := by decide +kernel
theorem dX7_readOne_13 : decode cX7_readOne 13 = .ok (.iconst 0, 1) := by decide +kernel
theorem dX7_readOne_14 : decode cX7_readOne 14 = .ok (.istore 4, 2) := by decide +kernel
theorem dX7_readOne_16 : decode cX7_readOne 16 = .ok (.iload 4, 2) := by decide +kernel
theorem dX7_readOne_18 : decode cX7_readOne 18 = .ok (.ifCond .ne 19, 3) := by decide +kernel
theorem dX7_readOne_21 : decode cX7_readOne 21 = .ok (.aload_n 1, 1) := by decide +kernel
theorem dX7_readOne_22 : decode cX7_readOne 22 = .ok (.getfield 61, 3) := by decide +kernel
theorem dX7_readOne_25 : decode cX7_readOne 25 = .ok (.invokestatic 77, 3) := by decide +kernel
theorem dX7_readOne_28 : decode cX7_readOne 28 = .ok (.ifCond .ne 9, 3) := by decide +kernel
theorem dX7_readOne_31 : decode cX7_readOne 31 = .ok (.aload_n 1, 1) := by decide +kernel
theorem dX7_readOne_32 : decode cX7_readOne 32 = .ok (.iconst 1, 1) := by decide +kernel
theorem dX7_readOne_33 : decode cX7_readOne 33 = .ok (.invokevirtual 54, 3) := by decide +kernel
theorem dX7_readOne_36 : decode cX7_readOne 36 = .ok (.ireturn, 1) := by decide +kernel
theorem dX7_readOne_37 : decode cX7_readOne 37 = .ok (.aload_n 0, 1) := by decide +kernel
theorem dX7_readOne_38 : decode cX7_readOne 38 = .ok (.getfield 28, 3) := by decide +kernel
theorem dX7_readOne_41 : decode cX7_readOne 41 = .ok (.bipush 20, 2) := by decide +kernel
theorem dX7_readOne_43 : decode cX7_readOne 43 = .ok (.if_icmp .ge 9, 3) := by decide +kernel
theorem dX7_readOne_46 : decode cX7_readOne 46 = .ok (.iload_n 3, 1) := by decide +kernel
theorem dX7_readOne_47 : decode cX7_readOne 47 = .ok (.bipush 8, 2) := by decide +kernel
theorem dX7_readOne_49 : decode cX7_readOne 49 = .ok (.if_icmp .lt 9, 3) := by decide +kernel
theorem dX7_readOne_52 : decode cX7_readOne 52 = .ok (.aload_n 1, 1) := by decide +kernel
theorem dX7_readOne_53 : decode cX7_readOne 53 = .ok (.iconst 4, 1) := by decide +kernel
theorem dX7_readOne_54 : decode cX7_readOne 54 = .ok (.invokevirtual 54, 3) := by decide +kernel
theorem dX7_readOne_57 : decode cX7_readOne 57 = .ok (.ireturn, 1) := by decide +kernel
theorem dX7_readOne_58 : decode cX7_readOne 58 = .ok (.aload_n 0, 1) := by decide +kernel
theorem dX7_readOne_59 : decode cX7_readOne 59 = .ok (.dup, 1) := by decide +kernel
theorem dX7_readOne_60 : decode cX7_readOne 60 = .ok (.getfield 28, 3) := by decide +kernel
theorem dX7_readOne_63 : decode cX7_readOne 63 = .ok (.iconst 1, 1) := by decide +kernel
theorem dX7_readOne_64 : decode cX7_readOne 64 = .ok (.iadd, 1) := by decide +kernel
theorem dX7_readOne_65 : decode cX7_readOne 65 = .ok (.putfield 28, 3) := by decide +kernel
theorem dX7_readOne_68 : decode cX7_readOne 68 = .ok (.aload_n 1, 1) := by decide +kernel
theorem dX7_readOne_69 : decode cX7_readOne 69 = .ok (.getfield 61, 3) := by decide +kernel
theorem dX7_readOne_72 : decode cX7_readOne 72 = .ok (.getstatic 81, 3) := by decide +kernel
theorem dX7_readOne_75 : decode cX7_readOne 75 = .ok (.if_acmp .ne 37, 3) := by decide +kernel
theorem dX7_readOne_78 : decode cX7_readOne 78 = .ok (.aload_n 1, 1) := by decide +kernel
theorem dX7_readOne_79 : decode cX7_readOne 79 = .ok (.invokevirtual 44, 3) := by decide +kernel
theorem dX7_readOne_82 : decode cX7_readOne 82 = .ok (.aload_n 0, 1) := by decide +kernel
theorem dX7_readOne_83 : decode cX7_readOne 83 = .ok (.aload_n 1, 1) := by decide +kernel
theorem dX7_readOne_84 : decode cX7_readOne 84 = .ok (.aload_n 2, 1) := by decide +kernel
theorem dX7_readOne_85 : decode cX7_readOne 85 = .ok (.iload_n 3, 1) := by decide +kernel
theorem dX7_readOne_86 : decode cX7_readOne 86 = .ok (.iconst 1, 1) := by decide +kernel
theorem dX7_readOne_87 : decode cX7_readOne 87 = .ok (.iadd, 1) := by decide +kernel
theorem dX7_readOne_88 : decode cX7_readOne 88 = .ok (.invokevirtual 71, 3) := by decide +kernel
theorem dX7_readOne_91 : decode cX7_readOne 91 = .ok (.ifCond .eq 19, 3) := by decide +kernel
theorem dX7_readOne_94 : decode cX7_readOne 94 = .ok (.aload_n 0, 1) := by decide +kernel
theorem dX7_readOne_95 : decode cX7_readOne 95 = .ok (.getstatic 81, 3) := by decide +kernel
theorem dX7_readOne_98 : decode cX7_readOne 98 = .ok (.iconst 0, 1) := by decide +kernel
theorem dX7_readOne_99 : decode cX7_readOne 99 = .ok (.iconst 0, 1) := by decide +kernel
theorem dX7_readOne_100 : decode cX7_readOne 100 = .ok (.invokevirtual 67, 3) := by decide +kernel
theorem dX7_readOne_103 : decode cX7_readOne 103 = .ok (.ifCond .eq 7, 3) := by decide +kernel
theorem dX7_readOne_106 : decode cX7_readOne 106 = .ok (.iconst 1, 1) := by decide +kernel
theorem dX7_readOne_107 : decode cX7_readOne 107 = .ok (.goto 4, 3) := by decide +kernel
theorem dX7_readOne_110 : decode cX7_readOne 110 = .ok (.iconst 0, 1) := by decide +kernel
theorem dX7_readOne_111 : decode cX7_readOne 111 = .ok (.ireturn, 1) := by decide +kernel
theorem dX7_readOne_112 : decode cX7_readOne 112 = .ok (.iload 4, 2) := by decide +kernel
theorem dX7_readOne_114 : decode cX7_readOne 114 = .ok (.ifCond .ne 10, 3) := by decide +kernel
theorem dX7_readOne_117 : decode cX7_readOne 117 = .ok (.aload_n 0, 1) := by decide +kernel
theorem dX7_readOne_118 : decode cX7_readOne 118 = .ok (.aload_n 1, 1) := by decide +kernel
theorem dX7_readOne_119 : decode cX7_readOne 119 = .ok (.aload_n 2, 1) := by decide +kernel
theorem dX7_readOne_120 : decode cX7_readOne 120 = .ok (.invokevirtual 84, 3) := by decide +kernel
theorem dX7_readOne_123 : decode cX7_readOne 123 = .ok (.ireturn, 1) := by decide +kernel
theorem dX7_readOne_124 : decode cX7_readOne 124 = .ok (.aload_n 1, 1) := by decide +kernel
theorem dX7_readOne_125 : decode cX7_readOne 125 = .ok (.invokevirtual 44, 3) := by decide +kernel
theorem dX7_readOne_128 : decode cX7_readOne 128 = .ok (.aload_n 0, 1) := by decide +kernel
theorem dX7_readOne_129 : decode cX7_readOne 129 = .ok (.aload_n 1, 1) := by decide +kernel
theorem dX7_readOne_130 : decode cX7_readOne 130 = .ok (.aload_n 2, 1) := by decide +kernel
theorem dX7_readOne_131 : decode cX7_readOne 131 = .ok (.iload_n 3, 1) := by decide +kernel
theorem dX7_readOne_132 : decode cX7_readOne 132 = .ok (.iconst 1, 1) := by decide +kernel
theorem dX7_readOne_133 : decode cX7_readOne 133 = .ok (.iadd, 1) := by decide +kernel
theorem dX7_readOne_134 : decode cX7_readOne 134 = .ok (.invokevirtual 47, 3) := by decide +kernel
theorem dX7_readOne_137 : decode cX7_readOne 137 = .ok (.ifCond .ne 5, 3) := by decide +kernel
theorem dX7_readOne_140 : decode cX7_readOne 140 = .ok (.iconst 0, 1) := by decide +kernel
theorem dX7_readOne_141 : decode cX7_readOne 141 = .ok (.ireturn, 1) := by decide +kernel
theorem dX7_readOne_142 : decode cX7_readOne 142 = .ok (.aload_n 1, 1) := by decide +kernel
theorem dX7_readOne_143 : decode cX7_readOne 143 = .ok (.getfield 51, 3) := by decide +kernel
theorem dX7_readOne_146 : decode cX7_readOne 146 = .ok (.bipush 41, 2) := by decide +kernel
theorem dX7_readOne_148 : decode cX7_readOne 148 = .ok (.if_icmp .eq 9, 3) := by decide +kernel
theorem dX7_readOne_151 : decode cX7_readOne 151 = .ok (.aload_n 1, 1) := by decide +kernel
theorem dX7_readOne_152 : decode cX7_readOne 152 = .ok (.iconst 1, 1) := by decide +kernel
theorem dX7_readOne_153 : decode cX7_readOne 153 = .ok (.invokevirtual 54, 3) := by decide +kernel
theorem dX7_readOne_156 : decode cX7_readOne 156 = .ok (.ireturn, 1) := by decide +kernel
theorem dX7_readOne_157 : decode cX7_readOne 157 = .ok (.aload_n 1, 1) := by decide +kernel
theorem dX7_readOne_158 : decode cX7_readOne 158 = .ok (.invokevirtual 44, 3) := by decide +kernel
theorem dX7_readOne_161 : decode cX7_readOne 161 = .ok (.iconst 1, 1) := by decide +kernel
theorem dX7_readOne_162 : decode cX7_readOne 162 = .ok (.ireturn, 1) := by decide +kernel
theorem dX7_mayBegin_0 : decode cX7_mayBegin 0 = .ok (.getstatic 88, 3) := by decide +kernel
theorem dX7_mayBegin_3 : decode cX7_mayBegin 3 = .ok (.aload_n 0, 1) := by decide +kernel
theorem dX7_mayBegin_4 : decode cX7_mayBegin 4 = .ok (.invokevirtual 93, 3) := by decide +kernel
theorem dX7_mayBegin_7 : decode cX7_mayBegin 7 = .ok (.iaload, 1) := by decide +kernel
theorem dX7_mayBegin_8 : decode cX7_mayBegin 8 = .ok (.tableswitch 42 17 22 #[40, 40, 40, 40, 40, 40], 40) := by decide +kernel
theorem dX7_mayBegin_48 : decode cX7_mayBegin 48 = .ok (.iconst 1, 1) := by decide +kernel
theorem dX7_mayBegin_49 : decode cX7_mayBegin 49 = .ok (.ireturn, 1) := by decide +kernel
theorem dX7_mayBegin_50 : decode cX7_mayBegin 50 = .ok (.aload_n 0, 1) := by decide +kernel
theorem dX7_mayBegin_51 : decode cX7_mayBegin 51 = .ok (.invokestatic 97, 3) := by decide +kernel
theorem dX7_mayBegin_54 : decode cX7_mayBegin 54 = .ok (.ireturn, 1) := by decide +kernel
theorem dX7_isMeasure_0 : decode cX7_isMeasure 0 = .ok (.aload_n 0, 1) := by decide +kernel
theorem dX7_isMeasure_1 : decode cX7_isMeasure 1 = .ok (.getstatic 100, 3) := by decide +kernel
theorem dX7_isMeasure_4 : decode cX7_isMeasure 4 = .ok (.if_acmp .eq 24, 3) := by decide +kernel
theorem dX7_isMeasure_7 : decode cX7_isMeasure 7 = .ok (.aload_n 0, 1) := by decide +kernel
theorem dX7_isMeasure_8 : decode cX7_isMeasure 8 = .ok (.getstatic 103, 3) := by decide +kernel
theorem dX7_isMeasure_11 : decode cX7_isMeasure 11 = .ok (.if_acmp .eq 17, 3) := by decide +kernel
theorem dX7_isMeasure_14 : decode cX7_isMeasure 14 = .ok (.aload_n 0, 1) := by decide +kernel
theorem dX7_isMeasure_15 : decode cX7_isMeasure 15 = .ok (.getstatic 106, 3) := by decide +kernel
theorem dX7_isMeasure_18 : decode cX7_isMeasure 18 = .ok (.if_acmp .eq 10, 3) := by decide +kernel
theorem dX7_isMeasure_21 : decode cX7_isMeasure 21 = .ok (.aload_n 0, 1) := by decide +kernel
theorem dX7_isMeasure_22 : decode cX7_isMeasure 22 = .ok (.getstatic 109, 3) := by decide +kernel
theorem dX7_isMeasure_25 : decode cX7_isMeasure 25 = .ok (.if_acmp .ne 7, 3) := by decide +kernel
theorem dX7_isMeasure_28 : decode cX7_isMeasure 28 = .ok (.iconst 1, 1) := by decide +kernel
theorem dX7_isMeasure_29 : decode cX7_isMeasure 29 = .ok (.goto 4, 3) := by decide +kernel
theorem dX7_isMeasure_32 : decode cX7_isMeasure 32 = .ok (.iconst 0, 1) := by decide +kernel
theorem dX7_isMeasure_33 : decode cX7_isMeasure 33 = .ok (.ireturn, 1) := by decide +kernel
theorem dX7_readPlain_0 : decode cX7_readPlain 0 = .ok (.aload_n 1, 1) := by decide +kernel
theorem dX7_readPlain_1 : decode cX7_readPlain 1 = .ok (.getfield 61, 3) := by decide +kernel
theorem dX7_readPlain_4 : decode cX7_readPlain 4 = .ok (.astore_n 3, 1) := by decide +kernel
theorem dX7_readPlain_5 : decode cX7_readPlain 5 = .ok (.iconst 0, 1) := by decide +kernel
theorem dX7_readPlain_6 : decode cX7_readPlain 6 = .ok (.istore 4, 2) := by decide +kernel
theorem dX7_readPlain_8 : decode cX7_readPlain 8 = .ok (.iconst 0, 1) := by decide +kernel
theorem dX7_readPlain_9 : decode cX7_readPlain 9 = .ok (.istore 5, 2) := by decide +kernel
theorem dX7_readPlain_11 : decode cX7_readPlain 11 = .ok (.aload_n 1, 1) := by decide +kernel
theorem dX7_readPlain_12 : decode cX7_readPlain 12 = .ok (.invokevirtual 44, 3) := by decide +kernel
theorem dX7_readPlain_15 : decode cX7_readPlain 15 = .ok (.aload_n 3, 1) := by decide +kernel
theorem dX7_readPlain_16 : decode cX7_readPlain 16 = .ok (.getstatic 112, 3) := by decide +kernel
theorem dX7_readPlain_19 : decode cX7_readPlain 19 = .ok (.if_acmp .ne 48, 3) := by decide +kernel
theorem dX7_readPlain_22 : decode cX7_readPlain 22 = .ok (.aload_n 1, 1) := by decide +kernel
theorem dX7_readPlain_23 : decode cX7_readPlain 23 = .ok (.getfield 61, 3) := by decide +kernel
theorem dX7_readPlain_26 : decode cX7_readPlain 26 = .ok (.getstatic 115, 3) := by decide +kernel
theorem dX7_readPlain_29 : decode cX7_readPlain 29 = .ok (.if_acmp .eq 9, 3) := by decide +kernel
theorem dX7_readPlain_32 : decode cX7_readPlain 32 = .ok (.aload_n 1, 1) := by decide +kernel
theorem dX7_readPlain_33 : decode cX7_readPlain 33 = .ok (.iconst 1, 1) := by decide +kernel
theorem dX7_readPlain_34 : decode cX7_readPlain 34 = .ok (.invokevirtual 54, 3) := by decide +kernel
theorem dX7_readPlain_37 : decode cX7_readPlain 37 = .ok (.ireturn, 1) := by decide +kernel
theorem dX7_readPlain_38 : decode cX7_readPlain 38 = .ok (.aload_n 2, 1) := by decide +kernel
theorem dX7_readPlain_39 : decode cX7_readPlain 39 = .ok (.aload_n 1, 1) := by decide +kernel
theorem dX7_readPlain_40 : decode cX7_readPlain 40 = .ok (.getfield 118, 3) := by decide +kernel
theorem dX7_readPlain_43 : decode cX7_readPlain 43 = .ok (.invokevirtual 122, 3) := by decide +kernel
theorem dX7_readPlain_46 : decode cX7_readPlain 46 = .ok (.istore 5, 2) := by decide +kernel
theorem dX7_readPlain_48 : decode cX7_readPlain 48 = .ok (.iload 5, 2) := by decide +kernel
theorem dX7_readPlain_50 : decode cX7_readPlain 50 = .ok (.iconst (-1), 1) := by decide +kernel
theorem dX7_readPlain_51 : decode cX7_readPlain 51 = .ok (.if_icmp .ne 9, 3) := by decide +kernel
theorem dX7_readPlain_54 : decode cX7_readPlain 54 = .ok (.aload_n 1, 1) := by decide +kernel
theorem dX7_readPlain_55 : decode cX7_readPlain 55 = .ok (.iconst 3, 1) := by decide +kernel
theorem dX7_readPlain_56 : decode cX7_readPlain 56 = .ok (.invokevirtual 54, 3) := by decide +kernel
theorem dX7_readPlain_59 : decode cX7_readPlain 59 = .ok (.ireturn, 1) := by decide +kernel
theorem dX7_readPlain_60 : decode cX7_readPlain 60 = .ok (.aload_n 1, 1) := by decide +kernel
theorem dX7_readPlain_61 : decode cX7_readPlain 61 = .ok (.invokevirtual 44, 3) := by decide +kernel
theorem dX7_readPlain_64 : decode cX7_readPlain 64 = .ok (.goto 71, 3) := by decide +kernel
theorem dX7_readPlain_67 : decode cX7_readPlain 67 = .ok (.aload_n 3, 1) := by decide +kernel
theorem dX7_readPlain_68 : decode cX7_readPlain 68 = .ok (.invokestatic 97, 3) := by decide +kernel
theorem dX7_readPlain_71 : decode cX7_readPlain 71 = .ok (.ifCond .eq 64, 3) := by decide +kernel
theorem dX7_readPlain_74 : decode cX7_readPlain 74 = .ok (.aload_n 1, 1) := by decide +kernel
theorem dX7_readPlain_75 : decode cX7_readPlain 75 = .ok (.getfield 51, 3) := by decide +kernel
theorem dX7_readPlain_78 : decode cX7_readPlain 78 = .ok (.istore 4, 2) := by decide +kernel
theorem dX7_readPlain_80 : decode cX7_readPlain 80 = .ok (.iload 4, 2) := by decide +kernel
theorem dX7_readPlain_82 : decode cX7_readPlain 82 = .ok (.bipush 60, 2) := by decide +kernel
theorem dX7_readPlain_84 : decode cX7_readPlain 84 = .ok (.if_icmp .eq 23, 3) := by decide +kernel
theorem dX7_readPlain_87 : decode cX7_readPlain 87 = .ok (.iload 4, 2) := by decide +kernel
theorem dX7_readPlain_89 : decode cX7_readPlain 89 = .ok (.bipush 61, 2) := by decide +kernel
theorem dX7_readPlain_91 : decode cX7_readPlain 91 = .ok (.if_icmp .eq 16, 3) := by decide +kernel
theorem dX7_readPlain_94 : decode cX7_readPlain 94 = .ok (.iload 4, 2) := by decide +kernel
theorem dX7_readPlain_96 : decode cX7_readPlain 96 = .ok (.bipush 62, 2) := by decide +kernel
theorem dX7_readPlain_98 : decode cX7_readPlain 98 = .ok (.if_icmp .eq 9, 3) := by decide +kernel
theorem dX7_readPlain_101 : decode cX7_readPlain 101 = .ok (.aload_n 1, 1) := by decide +kernel
theorem dX7_readPlain_102 : decode cX7_readPlain 102 = .ok (.iconst 1, 1) := by decide +kernel
theorem dX7_readPlain_103 : decode cX7_readPlain 103 = .ok (.invokevirtual 54, 3) := by decide +kernel
theorem dX7_readPlain_106 : decode cX7_readPlain 106 = .ok (.ireturn, 1) := by decide +kernel
theorem dX7_readPlain_107 : decode cX7_readPlain 107 = .ok (.aload_n 1, 1) := by decide +kernel
theorem dX7_readPlain_108 : decode cX7_readPlain 108 = .ok (.invokevirtual 44, 3) := by decide +kernel
theorem dX7_readPlain_111 : decode cX7_readPlain 111 = .ok (.aload_n 1, 1) := by decide +kernel
theorem dX7_readPlain_112 : decode cX7_readPlain 112 = .ok (.getfield 51, 3) := by decide +kernel
theorem dX7_readPlain_115 : decode cX7_readPlain 115 = .ok (.iconst 3, 1) := by decide +kernel
theorem dX7_readPlain_116 : decode cX7_readPlain 116 = .ok (.if_icmp .eq 9, 3) := by decide +kernel
theorem dX7_readPlain_119 : decode cX7_readPlain 119 = .ok (.aload_n 1, 1) := by decide +kernel
theorem dX7_readPlain_120 : decode cX7_readPlain 120 = .ok (.iconst 1, 1) := by decide +kernel
theorem dX7_readPlain_121 : decode cX7_readPlain 121 = .ok (.invokevirtual 54, 3) := by decide +kernel
theorem dX7_readPlain_124 : decode cX7_readPlain 124 = .ok (.ireturn, 1) := by decide +kernel
theorem dX7_readPlain_125 : decode cX7_readPlain 125 = .ok (.aload_n 1, 1) := by decide +kernel
theorem dX7_readPlain_126 : decode cX7_readPlain 126 = .ok (.getfield 128, 3) := by decide +kernel
theorem dX7_readPlain_129 : decode cX7_readPlain 129 = .ok (.istore 5, 2) := by decide +kernel
theorem dX7_readPlain_131 : decode cX7_readPlain 131 = .ok (.aload_n 1, 1) := by decide +kernel
theorem dX7_readPlain_132 : decode cX7_readPlain 132 = .ok (.invokevirtual 44, 3) := by decide +kernel
theorem dX7_readPlain_135 : decode cX7_readPlain 135 = .ok (.aload_n 0, 1) := by decide +kernel
theorem dX7_readPlain_136 : decode cX7_readPlain 136 = .ok (.aload_n 3, 1) := by decide +kernel
theorem dX7_readPlain_137 : decode cX7_readPlain 137 = .ok (.iload 4, 2) := by decide +kernel
theorem dX7_readPlain_139 : decode cX7_readPlain 139 = .ok (.iload 5, 2) := by decide +kernel
theorem dX7_readPlain_141 : decode cX7_readPlain 141 = .ok (.invokevirtual 67, 3) := by decide +kernel
theorem dX7_readPlain_144 : decode cX7_readPlain 144 = .ok (.ireturn, 1) := by decide +kernel
theorem dX7_addStep_0 : decode cX7_addStep 0 = .ok (.aload_n 0, 1) := by decide +kernel
theorem dX7_addStep_1 : decode cX7_addStep 1 = .ok (.getfield 32, 3) := by decide +kernel
theorem dX7_addStep_4 : decode cX7_addStep 4 = .ok (.bipush 40, 2) := by decide +kernel
theorem dX7_addStep_6 : decode cX7_addStep 6 = .ok (.if_icmp .ge 43, 3) := by decide +kernel
theorem dX7_addStep_9 : decode cX7_addStep 9 = .ok (.aload_n 0, 1) := by decide +kernel
theorem dX7_addStep_10 : decode cX7_addStep 10 = .ok (.getfield 13, 3) := by decide +kernel
theorem dX7_addStep_13 : decode cX7_addStep 13 = .ok (.aload_n 0, 1) := by decide +kernel
theorem dX7_addStep_14 : decode cX7_addStep 14 = .ok (.getfield 32, 3) := by decide +kernel
theorem dX7_addStep_17 : decode cX7_addStep 17 = .ok (.aload_n 1, 1) := by decide +kernel
theorem dX7_addStep_18 : decode cX7_addStep 18 = .ok (.aastore, 1) := by decide +kernel
theorem dX7_addStep_19 : decode cX7_addStep 19 = .ok (.aload_n 0, 1) := by decide +kernel
theorem dX7_addStep_20 : decode cX7_addStep 20 = .ok (.getfield 17, 3) := by decide +kernel
theorem dX7_addStep_23 : decode cX7_addStep 23 = .ok (.aload_n 0, 1) := by decide +kernel
theorem dX7_addStep_24 : decode cX7_addStep 24 = .ok (.getfield 32, 3) := by decide +kernel
theorem dX7_addStep_27 : decode cX7_addStep 27 = .ok (.iload_n 2, 1) := by decide +kernel
theorem dX7_addStep_28 : decode cX7_addStep 28 = .ok (.iastore, 1) := by decide +kernel
theorem dX7_addStep_29 : decode cX7_addStep 29 = .ok (.aload_n 0, 1) := by decide +kernel
theorem dX7_addStep_30 : decode cX7_addStep 30 = .ok (.getfield 21, 3) := by decide +kernel
theorem dX7_addStep_33 : decode cX7_addStep 33 = .ok (.aload_n 0, 1) := by decide +kernel
theorem dX7_addStep_34 : decode cX7_addStep 34 = .ok (.getfield 32, 3) := by decide +kernel
theorem dX7_addStep_37 : decode cX7_addStep 37 = .ok (.iload_n 3, 1) := by decide +kernel
theorem dX7_addStep_38 : decode cX7_addStep 38 = .ok (.iastore, 1) := by decide +kernel
theorem dX7_addStep_39 : decode cX7_addStep 39 = .ok (.aload_n 0, 1) := by decide +kernel
theorem dX7_addStep_40 : decode cX7_addStep 40 = .ok (.dup, 1) := by decide +kernel
theorem dX7_addStep_41 : decode cX7_addStep 41 = .ok (.getfield 32, 3) := by decide +kernel
theorem dX7_addStep_44 : decode cX7_addStep 44 = .ok (.iconst 1, 1) := by decide +kernel
theorem dX7_addStep_45 : decode cX7_addStep 45 = .ok (.iadd, 1) := by decide +kernel
theorem dX7_addStep_46 : decode cX7_addStep 46 = .ok (.putfield 32, 3) := by decide +kernel
theorem dX7_addStep_49 : decode cX7_addStep 49 = .ok (.iconst 1, 1) := by decide +kernel
theorem dX7_addStep_50 : decode cX7_addStep 50 = .ok (.ireturn, 1) := by decide +kernel
theorem dX7_holds_0 : decode cX7_holds 0 = .ok (.iconst 0, 1) := by decide +kernel
theorem dX7_holds_1 : decode cX7_holds 1 = .ok (.istore 4, 2) := by decide +kernel
theorem dX7_holds_3 : decode cX7_holds 3 = .ok (.iconst 0, 1) := by decide +kernel
theorem dX7_holds_4 : decode cX7_holds 4 = .ok (.istore 5, 2) := by decide +kernel
theorem dX7_holds_6 : decode cX7_holds 6 = .ok (.iload 5, 2) := by decide +kernel
theorem dX7_holds_8 : decode cX7_holds 8 = .ok (.aload_n 0, 1) := by decide +kernel
theorem dX7_holds_9 : decode cX7_holds 9 = .ok (.getfield 32, 3) := by decide +kernel
theorem dX7_holds_12 : decode cX7_holds 12 = .ok (.if_icmp .ge 122, 3) := by decide +kernel
theorem dX7_holds_15 : decode cX7_holds 15 = .ok (.iload 4, 2) := by decide +kernel
theorem dX7_holds_17 : decode cX7_holds 17 = .ok (.iconst 1, 1) := by decide +kernel
theorem dX7_holds_18 : decode cX7_holds 18 = .ok (.iand, 1) := by decide +kernel
theorem dX7_holds_19 : decode cX7_holds 19 = .ok (.istore 6, 2) := by decide +kernel
theorem dX7_holds_21 : decode cX7_holds 21 = .ok (.getstatic 88, 3) := by decide +kernel
theorem dX7_holds_24 : decode cX7_holds 24 = .ok (.aload_n 0, 1) := by decide +kernel
theorem dX7_holds_25 : decode cX7_holds 25 = .ok (.getfield 13, 3) := by decide +kernel
theorem dX7_holds_28 : decode cX7_holds 28 = .ok (.iload 5, 2) := by decide +kernel
theorem dX7_holds_30 : decode cX7_holds 30 = .ok (.aaload, 1) := by decide +kernel
theorem dX7_holds_31 : decode cX7_holds 31 = .ok (.invokevirtual 93, 3) := by decide +kernel
theorem dX7_holds_34 : decode cX7_holds 34 = .ok (.iaload, 1) := by decide +kernel
theorem dX7_holds_35 : decode cX7_holds 35 = .ok (.lookupswitch 69 #[(17, 33), (23, 42), (24, 57)], 33) := by decide +kernel
theorem dX7_holds_68 : decode cX7_holds 68 = .ok (.iload 4, 2) := by decide +kernel
theorem dX7_holds_70 : decode cX7_holds 70 = .ok (.iconst 1, 1) := by decide +kernel
theorem dX7_holds_71 : decode cX7_holds 71 = .ok (.ixor, 1) := by decide +kernel
theorem dX7_holds_72 : decode cX7_holds 72 = .ok (.istore 4, 2) := by decide +kernel
theorem dX7_holds_74 : decode cX7_holds 74 = .ok (.goto 54, 3) := by decide +kernel
theorem dX7_holds_77 : decode cX7_holds 77 = .ok (.iload 4, 2) := by decide +kernel
theorem dX7_holds_79 : decode cX7_holds 79 = .ok (.iconst 1, 1) := by decide +kernel
theorem dX7_holds_80 : decode cX7_holds 80 = .ok (.ishr, 1) := by decide +kernel
theorem dX7_holds_81 : decode cX7_holds 81 = .ok (.iload 6, 2) := by decide +kernel
theorem dX7_holds_83 : decode cX7_holds 83 = .ok (.bipush (-2), 2) := by decide +kernel
theorem dX7_holds_85 : decode cX7_holds 85 = .ok (.ior, 1) := by decide +kernel
theorem dX7_holds_86 : decode cX7_holds 86 = .ok (.iand, 1) := by decide +kernel
theorem dX7_holds_87 : decode cX7_holds 87 = .ok (.istore 4, 2) := by decide +kernel
theorem dX7_holds_89 : decode cX7_holds 89 = .ok (.goto 39, 3) := by decide +kernel
theorem dX7_holds_92 : decode cX7_holds 92 = .ok (.iload 4, 2) := by decide +kernel
theorem dX7_holds_94 : decode cX7_holds 94 = .ok (.iconst 1, 1) := by decide +kernel
theorem dX7_holds_95 : decode cX7_holds 95 = .ok (.ishr, 1) := by decide +kernel
theorem dX7_holds_96 : decode cX7_holds 96 = .ok (.iload 6, 2) := by decide +kernel
theorem dX7_holds_98 : decode cX7_holds 98 = .ok (.ior, 1) := by decide +kernel
theorem dX7_holds_99 : decode cX7_holds 99 = .ok (.istore 4, 2) := by decide +kernel
theorem dX7_holds_101 : decode cX7_holds 101 = .ok (.goto 27, 3) := by decide +kernel
theorem dX7_holds_104 : decode cX7_holds 104 = .ok (.iload 4, 2) := by decide +kernel
theorem dX7_holds_106 : decode cX7_holds 106 = .ok (.iconst 1, 1) := by decide +kernel
theorem dX7_holds_107 : decode cX7_holds 107 = .ok (.ishl, 1) := by decide +kernel
theorem dX7_holds_108 : decode cX7_holds 108 = .ok (.aload_n 0, 1) := by decide +kernel
theorem dX7_holds_109 : decode cX7_holds 109 = .ok (.iload 5, 2) := by decide +kernel
theorem dX7_holds_111 : decode cX7_holds 111 = .ok (.aload_n 1, 1) := by decide +kernel
theorem dX7_holds_112 : decode cX7_holds 112 = .ok (.aload_n 2, 1) := by decide +kernel
theorem dX7_holds_113 : decode cX7_holds 113 = .ok (.iload_n 3, 1) := by decide +kernel
theorem dX7_holds_114 : decode cX7_holds 114 = .ok (.invokevirtual 131, 3) := by decide +kernel
theorem dX7_holds_117 : decode cX7_holds 117 = .ok (.ifCond .eq 7, 3) := by decide +kernel
theorem dX7_holds_120 : decode cX7_holds 120 = .ok (.iconst 1, 1) := by decide +kernel
theorem dX7_holds_121 : decode cX7_holds 121 = .ok (.goto 4, 3) := by decide +kernel
theorem dX7_holds_124 : decode cX7_holds 124 = .ok (.iconst 0, 1) := by decide +kernel
theorem dX7_holds_125 : decode cX7_holds 125 = .ok (.ior, 1) := by decide +kernel
theorem dX7_holds_126 : decode cX7_holds 126 = .ok (.istore 4, 2) := by decide +kernel
theorem dX7_holds_128 : decode cX7_holds 128 = .ok (.iinc 5 1, 3) := by decide +kernel
theorem dX7_holds_131 : decode cX7_holds 131 = .ok (.goto (-125), 3) := by decide +kernel
theorem dX7_holds_134 : decode cX7_holds 134 = .ok (.iload 4, 2) := by decide +kernel
theorem dX7_holds_136 : decode cX7_holds 136 = .ok (.iconst 1, 1) := by decide +kernel
theorem dX7_holds_137 : decode cX7_holds 137 = .ok (.iand, 1) := by decide +kernel
theorem dX7_holds_138 : decode cX7_holds 138 = .ok (.iconst 1, 1) := by decide +kernel
theorem dX7_holds_139 : decode cX7_holds 139 = .ok (.if_icmp .ne 7, 3) := by decide +kernel
theorem dX7_holds_142 : decode cX7_holds 142 = .ok (.iconst 1, 1) := by decide +kernel
theorem dX7_holds_143 : decode cX7_holds 143 = .ok (.goto 4, 3) := by decide +kernel
theorem dX7_holds_146 : decode cX7_holds 146 = .ok (.iconst 0, 1) := by decide +kernel
theorem dX7_holds_147 : decode cX7_holds 147 = .ok (.ireturn, 1) := by decide +kernel
theorem dX7_isSo_0 : decode cX7_isSo 0 = .ok (.getstatic 88, 3) := by decide +kernel
theorem dX7_isSo_3 : decode cX7_isSo 3 = .ok (.aload_n 0, 1) := by decide +kernel
theorem dX7_isSo_4 : decode cX7_isSo 4 = .ok (.getfield 13, 3) := by decide +kernel
theorem dX7_isSo_7 : decode cX7_isSo 7 = .ok (.iload_n 1, 1) := by decide +kernel
theorem dX7_isSo_8 : decode cX7_isSo 8 = .ok (.aaload, 1) := by decide +kernel
theorem dX7_isSo_9 : decode cX7_isSo 9 = .ok (.invokevirtual 93, 3) := by decide +kernel
theorem dX7_isSo_12 : decode cX7_isSo 12 = .ok (.iaload, 1) := by decide +kernel
theorem dX7_isSo_13 : decode cX7_isSo 13 = .ok (.tableswitch 206 18 27 #[55, 62, 78, 95, 129, 206, 206, 167, 180, 193], 55) := by decide +kernel
theorem dX7_isSo_68 : decode cX7_isSo 68 = .ok (.aload_n 2, 1) := by decide +kernel
theorem dX7_isSo_69 : decode cX7_isSo 69 = .ok (.iload 4, 2) := by decide +kernel
theorem dX7_isSo_71 : decode cX7_isSo 71 = .ok (.invokevirtual 135, 3) := by decide +kernel
theorem dX7_isSo_74 : decode cX7_isSo 74 = .ok (.ireturn, 1) := by decide +kernel
theorem dX7_isSo_75 : decode cX7_isSo 75 = .ok (.aload_n 2, 1) := by decide +kernel
theorem dX7_isSo_76 : decode cX7_isSo 76 = .ok (.getfield 140, 3) := by decide +kernel
theorem dX7_isSo_79 : decode cX7_isSo 79 = .ok (.iload 4, 2) := by decide +kernel
theorem dX7_isSo_81 : decode cX7_isSo 81 = .ok (.iaload, 1) := by decide +kernel
theorem dX7_isSo_82 : decode cX7_isSo 82 = .ok (.ifCond .ne 7, 3) := by decide +kernel
theorem dX7_isSo_85 : decode cX7_isSo 85 = .ok (.iconst 1, 1) := by decide +kernel
theorem dX7_isSo_86 : decode cX7_isSo 86 = .ok (.goto 4, 3) := by decide +kernel
theorem dX7_isSo_89 : decode cX7_isSo 89 = .ok (.iconst 0, 1) := by decide +kernel
theorem dX7_isSo_90 : decode cX7_isSo 90 = .ok (.ireturn, 1) := by decide +kernel
theorem dX7_isSo_91 : decode cX7_isSo 91 = .ok (.aload_n 2, 1) := by decide +kernel
theorem dX7_isSo_92 : decode cX7_isSo 92 = .ok (.getfield 143, 3) := by decide +kernel
theorem dX7_isSo_95 : decode cX7_isSo 95 = .ok (.iload 4, 2) := by decide +kernel
theorem dX7_isSo_97 : decode cX7_isSo 97 = .ok (.iaload, 1) := by decide +kernel
theorem dX7_isSo_98 : decode cX7_isSo 98 = .ok (.iconst 1, 1) := by decide +kernel
theorem dX7_isSo_99 : decode cX7_isSo 99 = .ok (.if_icmp .ne 7, 3) := by decide +kernel
theorem dX7_isSo_102 : decode cX7_isSo 102 = .ok (.iconst 1, 1) := by decide +kernel
theorem dX7_isSo_103 : decode cX7_isSo 103 = .ok (.goto 4, 3) := by decide +kernel
theorem dX7_isSo_106 : decode cX7_isSo 106 = .ok (.iconst 0, 1) := by decide +kernel
theorem dX7_isSo_107 : decode cX7_isSo 107 = .ok (.ireturn, 1) := by decide +kernel
theorem dX7_isSo_108 : decode cX7_isSo 108 = .ok (.aload_n 2, 1) := by decide +kernel
theorem dX7_isSo_109 : decode cX7_isSo 109 = .ok (.aload_n 3, 1) := by decide +kernel
theorem dX7_isSo_110 : decode cX7_isSo 110 = .ok (.getfield 146, 3) := by decide +kernel
theorem dX7_isSo_113 : decode cX7_isSo 113 = .ok (.iload 4, 2) := by decide +kernel
theorem dX7_isSo_115 : decode cX7_isSo 115 = .ok (.iaload, 1) := by decide +kernel
theorem dX7_isSo_116 : decode cX7_isSo 116 = .ok (.invokevirtual 149, 3) := by decide +kernel
theorem dX7_isSo_119 : decode cX7_isSo 119 = .ok (.ifCond .eq 21, 3) := by decide +kernel
theorem dX7_isSo_122 : decode cX7_isSo 122 = .ok (.aload_n 2, 1) := by decide +kernel
theorem dX7_isSo_123 : decode cX7_isSo 123 = .ok (.aload_n 3, 1) := by decide +kernel
theorem dX7_isSo_124 : decode cX7_isSo 124 = .ok (.getfield 152, 3) := by decide +kernel
theorem dX7_isSo_127 : decode cX7_isSo 127 = .ok (.iload 4, 2) := by decide +kernel
theorem dX7_isSo_129 : decode cX7_isSo 129 = .ok (.iaload, 1) := by decide +kernel
theorem dX7_isSo_130 : decode cX7_isSo 130 = .ok (.invokevirtual 149, 3) := by decide +kernel
theorem dX7_isSo_133 : decode cX7_isSo 133 = .ok (.ifCond .eq 7, 3) := by decide +kernel
theorem dX7_isSo_136 : decode cX7_isSo 136 = .ok (.iconst 1, 1) := by decide +kernel
theorem dX7_isSo_137 : decode cX7_isSo 137 = .ok (.goto 4, 3) := by decide +kernel
theorem dX7_isSo_140 : decode cX7_isSo 140 = .ok (.iconst 0, 1) := by decide +kernel
theorem dX7_isSo_141 : decode cX7_isSo 141 = .ok (.ireturn, 1) := by decide +kernel
theorem dX7_isSo_142 : decode cX7_isSo 142 = .ok (.aload_n 0, 1) := by decide +kernel
theorem dX7_isSo_143 : decode cX7_isSo 143 = .ok (.getfield 21, 3) := by decide +kernel
theorem dX7_isSo_146 : decode cX7_isSo 146 = .ok (.iload_n 1, 1) := by decide +kernel
theorem dX7_isSo_147 : decode cX7_isSo 147 = .ok (.iaload, 1) := by decide +kernel
theorem dX7_isSo_148 : decode cX7_isSo 148 = .ok (.aload_n 3, 1) := by decide +kernel
theorem dX7_isSo_149 : decode cX7_isSo 149 = .ok (.getfield 146, 3) := by decide +kernel
theorem dX7_isSo_152 : decode cX7_isSo 152 = .ok (.iload 4, 2) := by decide +kernel
theorem dX7_isSo_154 : decode cX7_isSo 154 = .ok (.iaload, 1) := by decide +kernel
theorem dX7_isSo_155 : decode cX7_isSo 155 = .ok (.if_icmp .eq 19, 3) := by decide +kernel
theorem dX7_isSo_158 : decode cX7_isSo 158 = .ok (.aload_n 0, 1) := by decide +kernel
theorem dX7_isSo_159 : decode cX7_isSo 159 = .ok (.getfield 21, 3) := by decide +kernel
theorem dX7_isSo_162 : decode cX7_isSo 162 = .ok (.iload_n 1, 1) := by decide +kernel
theorem dX7_isSo_163 : decode cX7_isSo 163 = .ok (.iaload, 1) := by decide +kernel
theorem dX7_isSo_164 : decode cX7_isSo 164 = .ok (.aload_n 3, 1) := by decide +kernel
theorem dX7_isSo_165 : decode cX7_isSo 165 = .ok (.getfield 152, 3) := by decide +kernel
theorem dX7_isSo_168 : decode cX7_isSo 168 = .ok (.iload 4, 2) := by decide +kernel
theorem dX7_isSo_170 : decode cX7_isSo 170 = .ok (.iaload, 1) := by decide +kernel
theorem dX7_isSo_171 : decode cX7_isSo 171 = .ok (.if_icmp .ne 7, 3) := by decide +kernel
theorem dX7_isSo_174 : decode cX7_isSo 174 = .ok (.iconst 1, 1) := by decide +kernel
theorem dX7_isSo_175 : decode cX7_isSo 175 = .ok (.goto 4, 3) := by decide +kernel
theorem dX7_isSo_178 : decode cX7_isSo 178 = .ok (.iconst 0, 1) := by decide +kernel
theorem dX7_isSo_179 : decode cX7_isSo 179 = .ok (.ireturn, 1) := by decide +kernel
theorem dX7_isSo_180 : decode cX7_isSo 180 = .ok (.aload_n 0, 1) := by decide +kernel
theorem dX7_isSo_181 : decode cX7_isSo 181 = .ok (.aload_n 2, 1) := by decide +kernel
theorem dX7_isSo_182 : decode cX7_isSo 182 = .ok (.getfield 140, 3) := by decide +kernel
theorem dX7_isSo_185 : decode cX7_isSo 185 = .ok (.iload 4, 2) := by decide +kernel
theorem dX7_isSo_187 : decode cX7_isSo 187 = .ok (.iaload, 1) := by decide +kernel
theorem dX7_isSo_188 : decode cX7_isSo 188 = .ok (.iload_n 1, 1) := by decide +kernel
theorem dX7_isSo_189 : decode cX7_isSo 189 = .ok (.invokevirtual 155, 3) := by decide +kernel
theorem dX7_isSo_192 : decode cX7_isSo 192 = .ok (.ireturn, 1) := by decide +kernel
theorem dX7_isSo_193 : decode cX7_isSo 193 = .ok (.aload_n 0, 1) := by decide +kernel
theorem dX7_isSo_194 : decode cX7_isSo 194 = .ok (.aload_n 2, 1) := by decide +kernel
theorem dX7_isSo_195 : decode cX7_isSo 195 = .ok (.getfield 159, 3) := by decide +kernel
theorem dX7_isSo_198 : decode cX7_isSo 198 = .ok (.iload 4, 2) := by decide +kernel
theorem dX7_isSo_200 : decode cX7_isSo 200 = .ok (.iaload, 1) := by decide +kernel
theorem dX7_isSo_201 : decode cX7_isSo 201 = .ok (.iload_n 1, 1) := by decide +kernel
theorem dX7_isSo_202 : decode cX7_isSo 202 = .ok (.invokevirtual 155, 3) := by decide +kernel
theorem dX7_isSo_205 : decode cX7_isSo 205 = .ok (.ireturn, 1) := by decide +kernel
theorem dX7_isSo_206 : decode cX7_isSo 206 = .ok (.aload_n 0, 1) := by decide +kernel
theorem dX7_isSo_207 : decode cX7_isSo 207 = .ok (.aload_n 2, 1) := by decide +kernel
theorem dX7_isSo_208 : decode cX7_isSo 208 = .ok (.getfield 162, 3) := by decide +kernel
theorem dX7_isSo_211 : decode cX7_isSo 211 = .ok (.iload 4, 2) := by decide +kernel
theorem dX7_isSo_213 : decode cX7_isSo 213 = .ok (.iaload, 1) := by decide +kernel
theorem dX7_isSo_214 : decode cX7_isSo 214 = .ok (.iload_n 1, 1) := by decide +kernel
theorem dX7_isSo_215 : decode cX7_isSo 215 = .ok (.invokevirtual 155, 3) := by decide +kernel
theorem dX7_isSo_218 : decode cX7_isSo 218 = .ok (.ireturn, 1) := by decide +kernel
theorem dX7_isSo_219 : decode cX7_isSo 219 = .ok (.aload_n 0, 1) := by decide +kernel
theorem dX7_isSo_220 : decode cX7_isSo 220 = .ok (.iload 4, 2) := by decide +kernel
theorem dX7_isSo_222 : decode cX7_isSo 222 = .ok (.iload_n 1, 1) := by decide +kernel
theorem dX7_isSo_223 : decode cX7_isSo 223 = .ok (.invokevirtual 155, 3) := by decide +kernel
theorem dX7_isSo_226 : decode cX7_isSo 226 = .ok (.ireturn, 1) := by decide +kernel
theorem dX7_compares_0 : decode cX7_compares 0 = .ok (.aload_n 0, 1) := by decide +kernel
theorem dX7_compares_1 : decode cX7_compares 1 = .ok (.getfield 17, 3) := by decide +kernel
theorem dX7_compares_4 : decode cX7_compares 4 = .ok (.iload_n 2, 1) := by decide +kernel
theorem dX7_compares_5 : decode cX7_compares 5 = .ok (.iaload, 1) := by decide +kernel
theorem dX7_compares_6 : decode cX7_compares 6 = .ok (.bipush 60, 2) := by decide +kernel
theorem dX7_compares_8 : decode cX7_compares 8 = .ok (.if_icmp .ne 19, 3) := by decide +kernel
theorem dX7_compares_11 : decode cX7_compares 11 = .ok (.iload_n 1, 1) := by decide +kernel
theorem dX7_compares_12 : decode cX7_compares 12 = .ok (.aload_n 0, 1) := by decide +kernel
theorem dX7_compares_13 : decode cX7_compares 13 = .ok (.getfield 21, 3) := by decide +kernel
theorem dX7_compares_16 : decode cX7_compares 16 = .ok (.iload_n 2, 1) := by decide +kernel
theorem dX7_compares_17 : decode cX7_compares 17 = .ok (.iaload, 1) := by decide +kernel
theorem dX7_compares_18 : decode cX7_compares 18 = .ok (.if_icmp .ge 7, 3) := by decide +kernel
theorem dX7_compares_21 : decode cX7_compares 21 = .ok (.iconst 1, 1) := by decide +kernel
theorem dX7_compares_22 : decode cX7_compares 22 = .ok (.goto 4, 3) := by decide +kernel
theorem dX7_compares_25 : decode cX7_compares 25 = .ok (.iconst 0, 1) := by decide +kernel
theorem dX7_compares_26 : decode cX7_compares 26 = .ok (.ireturn, 1) := by decide +kernel
theorem dX7_compares_27 : decode cX7_compares 27 = .ok (.aload_n 0, 1) := by decide +kernel
theorem dX7_compares_28 : decode cX7_compares 28 = .ok (.getfield 17, 3) := by decide +kernel
theorem dX7_compares_31 : decode cX7_compares 31 = .ok (.iload_n 2, 1) := by decide +kernel
theorem dX7_compares_32 : decode cX7_compares 32 = .ok (.iaload, 1) := by decide +kernel
theorem dX7_compares_33 : decode cX7_compares 33 = .ok (.bipush 62, 2) := by decide +kernel
theorem dX7_compares_35 : decode cX7_compares 35 = .ok (.if_icmp .ne 21, 3) := by decide +kernel
theorem dX7_compares_38 : decode cX7_compares 38 = .ok (.iload_n 1, 1) := by decide +kernel
theorem dX7_compares_39 : decode cX7_compares 39 = .ok (.aload_n 0, 1) := by decide +kernel
theorem dX7_compares_40 : decode cX7_compares 40 = .ok (.getfield 21, 3) := by decide +kernel
theorem dX7_compares_43 : decode cX7_compares 43 = .ok (.iload_n 2, 1) := by decide +kernel
theorem dX7_compares_44 : decode cX7_compares 44 = .ok (.iaload, 1) := by decide +kernel
theorem dX7_compares_45 : decode cX7_compares 45 = .ok (.if_icmp .le 7, 3) := by decide +kernel
theorem dX7_compares_48 : decode cX7_compares 48 = .ok (.iconst 1, 1) := by decide +kernel
theorem dX7_compares_49 : decode cX7_compares 49 = .ok (.goto 22, 3) := by decide +kernel
theorem dX7_compares_52 : decode cX7_compares 52 = .ok (.iconst 0, 1) := by decide +kernel
theorem dX7_compares_53 : decode cX7_compares 53 = .ok (.goto 18, 3) := by decide +kernel
theorem dX7_compares_56 : decode cX7_compares 56 = .ok (.iload_n 1, 1) := by decide +kernel
theorem dX7_compares_57 : decode cX7_compares 57 = .ok (.aload_n 0, 1) := by decide +kernel
theorem dX7_compares_58 : decode cX7_compares 58 = .ok (.getfield 21, 3) := by decide +kernel
theorem dX7_compares_61 : decode cX7_compares 61 = .ok (.iload_n 2, 1) := by decide +kernel
theorem dX7_compares_62 : decode cX7_compares 62 = .ok (.iaload, 1) := by decide +kernel
theorem dX7_compares_63 : decode cX7_compares 63 = .ok (.if_icmp .ne 7, 3) := by decide +kernel
theorem dX7_compares_66 : decode cX7_compares 66 = .ok (.iconst 1, 1) := by decide +kernel
theorem dX7_compares_67 : decode cX7_compares 67 = .ok (.goto 4, 3) := by decide +kernel
theorem dX7_compares_70 : decode cX7_compares 70 = .ok (.iconst 0, 1) := by decide +kernel
theorem dX7_compares_71 : decode cX7_compares 71 = .ok (.ireturn, 1) := by decide +kernel
theorem dX8_init_0 : decode cX8_init 0 = .ok (.aload_n 0, 1) := by decide +kernel
theorem dX8_init_1 : decode cX8_init 1 = .ok (.invokespecial 1, 3) := by decide +kernel
theorem dX8_init_4 : decode cX8_init 4 = .ok (.aload_n 0, 1) := by decide +kernel
theorem dX8_init_5 : decode cX8_init 5 = .ok (.sipush 940, 3) := by decide +kernel
theorem dX8_init_8 : decode cX8_init 8 = .ok (.newarray .byte, 2) := by decide +kernel
theorem dX8_init_10 : decode cX8_init 10 = .ok (.putfield 9, 3) := by decide +kernel
theorem dX8_init_13 : decode cX8_init 13 = .ok (.aload_n 0, 1) := by decide +kernel
theorem dX8_init_14 : decode cX8_init 14 = .ok (.getstatic 13, 3) := by decide +kernel
theorem dX8_init_17 : decode cX8_init 17 = .ok (.putfield 19, 3) := by decide +kernel
theorem dX8_init_20 : decode cX8_init 20 = .ok (.return_, 1) := by decide +kernel
theorem dX8_hasRoom_0 : decode cX8_hasRoom 0 = .ok (.aload_n 0, 1) := by decide +kernel
theorem dX8_hasRoom_1 : decode cX8_hasRoom 1 = .ok (.getfield 22, 3) := by decide +kernel
theorem dX8_hasRoom_4 : decode cX8_hasRoom 4 = .ok (.bipush 20, 2) := by decide +kernel
theorem dX8_hasRoom_6 : decode cX8_hasRoom 6 = .ok (.iadd, 1) := by decide +kernel
theorem dX8_hasRoom_7 : decode cX8_hasRoom 7 = .ok (.sipush 940, 3) := by decide +kernel
theorem dX8_hasRoom_10 : decode cX8_hasRoom 10 = .ok (.if_icmp .gt 7, 3) := by decide +kernel
theorem dX8_hasRoom_13 : decode cX8_hasRoom 13 = .ok (.iconst 1, 1) := by decide +kernel
theorem dX8_hasRoom_14 : decode cX8_hasRoom 14 = .ok (.goto 4, 3) := by decide +kernel
theorem dX8_hasRoom_17 : decode cX8_hasRoom 17 = .ok (.iconst 0, 1) := by decide +kernel
theorem dX8_hasRoom_18 : decode cX8_hasRoom 18 = .ok (.ireturn, 1) := by decide +kernel
theorem dX8_append_0 : decode cX8_append 0 = .ok (.bipush 24, 2) := by decide +kernel
theorem dX8_append_2 : decode cX8_append 2 = .ok (.istore_n 2, 1) := by decide +kernel
theorem dX8_append_3 : decode cX8_append 3 = .ok (.iload_n 2, 1) := by decide +kernel
theorem dX8_append_4 : decode cX8_append 4 = .ok (.ifCond .lt 42, 3) := by decide +kernel
theorem dX8_append_7 : decode cX8_append 7 = .ok (.aload_n 0, 1) := by decide +kernel
theorem dX8_append_8 : decode cX8_append 8 = .ok (.getfield 22, 3) := by decide +kernel
theorem dX8_append_11 : decode cX8_append 11 = .ok (.sipush 940, 3) := by decide +kernel
theorem dX8_append_14 : decode cX8_append 14 = .ok (.if_icmp .ge 32, 3) := by decide +kernel
theorem dX8_append_17 : decode cX8_append 17 = .ok (.aload_n 0, 1) := by decide +kernel
theorem dX8_append_18 : decode cX8_append 18 = .ok (.getfield 9, 3) := by decide +kernel
theorem dX8_append_21 : decode cX8_append 21 = .ok (.aload_n 0, 1) := by decide +kernel
theorem dX8_append_22 : decode cX8_append 22 = .ok (.getfield 22, 3) := by decide +kernel
theorem dX8_append_25 : decode cX8_append 25 = .ok (.iload_n 1, 1) := by decide +kernel
theorem dX8_append_26 : decode cX8_append 26 = .ok (.iload_n 2, 1) := by decide +kernel
theorem dX8_append_27 : decode cX8_append 27 = .ok (.ishr, 1) := by decide +kernel
theorem dX8_append_28 : decode cX8_append 28 = .ok (.i2b, 1) := by decide +kernel
theorem dX8_append_29 : decode cX8_append 29 = .ok (.bastore, 1) := by decide +kernel
theorem dX8_append_30 : decode cX8_append 30 = .ok (.aload_n 0, 1) := by decide +kernel
theorem dX8_append_31 : decode cX8_append 31 = .ok (.dup, 1) := by decide +kernel
theorem dX8_append_32 : decode cX8_append 32 = .ok (.getfield 22, 3) := by decide +kernel
theorem dX8_append_35 : decode cX8_append 35 = .ok (.iconst 1, 1) := by decide +kernel
theorem dX8_append_36 : decode cX8_append 36 = .ok (.iadd, 1) := by decide +kernel
theorem dX8_append_37 : decode cX8_append 37 = .ok (.putfield 22, 3) := by decide +kernel
theorem dX8_append_40 : decode cX8_append 40 = .ok (.iinc 2 (-8), 3) := by decide +kernel
theorem dX8_append_43 : decode cX8_append 43 = .ok (.goto (-40), 3) := by decide +kernel
theorem dX8_append_46 : decode cX8_append 46 = .ok (.return_, 1) := by decide +kernel
theorem dX8_firstByte_0 : decode cX8_firstByte 0 = .ok (.aload_n 0, 1) := by decide +kernel
theorem dX8_firstByte_1 : decode cX8_firstByte 1 = .ok (.getfield 9, 3) := by decide +kernel
theorem dX8_firstByte_4 : decode cX8_firstByte 4 = .ok (.iconst 0, 1) := by decide +kernel
theorem dX8_firstByte_5 : decode cX8_firstByte 5 = .ok (.baload, 1) := by decide +kernel
theorem dX8_firstByte_6 : decode cX8_firstByte 6 = .ok (.sipush 255, 3) := by decide +kernel
theorem dX8_firstByte_9 : decode cX8_firstByte 9 = .ok (.iand, 1) := by decide +kernel
theorem dX8_firstByte_10 : decode cX8_firstByte 10 = .ok (.ireturn, 1) := by decide +kernel
theorem dX8_begin_0 : decode cX8_begin 0 = .ok (.aload_n 0, 1) := by decide +kernel
theorem dX8_begin_1 : decode cX8_begin 1 = .ok (.iload_n 1, 1) := by decide +kernel
theorem dX8_begin_2 : decode cX8_begin 2 = .ok (.putfield 26, 3) := by decide +kernel
theorem dX8_begin_5 : decode cX8_begin 5 = .ok (.aload_n 0, 1) := by decide +kernel
theorem dX8_begin_6 : decode cX8_begin 6 = .ok (.iconst 0, 1) := by decide +kernel
theorem dX8_begin_7 : decode cX8_begin 7 = .ok (.putfield 29, 3) := by decide +kernel
theorem dX8_begin_10 : decode cX8_begin 10 = .ok (.aload_n 0, 1) := by decide +kernel
theorem dX8_begin_11 : decode cX8_begin 11 = .ok (.iconst 0, 1) := by decide +kernel
theorem dX8_begin_12 : decode cX8_begin 12 = .ok (.putfield 32, 3) := by decide +kernel
theorem dX8_begin_15 : decode cX8_begin 15 = .ok (.aload_n 0, 1) := by decide +kernel
theorem dX8_begin_16 : decode cX8_begin 16 = .ok (.iconst 0, 1) := by decide +kernel
theorem dX8_begin_17 : decode cX8_begin 17 = .ok (.putfield 35, 3) := by decide +kernel
theorem dX8_begin_20 : decode cX8_begin 20 = .ok (.return_, 1) := by decide +kernel
theorem dX8_fails_0 : decode cX8_fails 0 = .ok (.aload_n 0, 1) := by decide +kernel
theorem dX8_fails_1 : decode cX8_fails 1 = .ok (.iload_n 1, 1) := by decide +kernel
theorem dX8_fails_2 : decode cX8_fails 2 = .ok (.putfield 32, 3) := by decide +kernel
theorem dX8_fails_5 : decode cX8_fails 5 = .ok (.aload_n 0, 1) := by decide +kernel
theorem dX8_fails_6 : decode cX8_fails 6 = .ok (.aload_n 0, 1) := by decide +kernel
theorem dX8_fails_7 : decode cX8_fails 7 = .ok (.getfield 38, 3) := by decide +kernel
theorem dX8_fails_10 : decode cX8_fails 10 = .ok (.putfield 35, 3) := by decide +kernel
theorem dX8_fails_13 : decode cX8_fails 13 = .ok (.iconst 0, 1) := by decide +kernel
theorem dX8_fails_14 : decode cX8_fails 14 = .ok (.ireturn, 1) := by decide +kernel
theorem dX8_next_0 : decode cX8_next 0 = .ok (.aload_n 0, 1) := by decide +kernel
theorem dX8_next_1 : decode cX8_next 1 = .ok (.getfield 29, 3) := by decide +kernel
theorem dX8_next_4 : decode cX8_next 4 = .ok (.aload_n 0, 1) := by decide +kernel
theorem dX8_next_5 : decode cX8_next 5 = .ok (.getfield 22, 3) := by decide +kernel
theorem dX8_next_8 : decode cX8_next 8 = .ok (.if_icmp .ge 44, 3) := by decide +kernel
theorem dX8_next_11 : decode cX8_next 11 = .ok (.aload_n 0, 1) := by decide +kernel
theorem dX8_next_12 : decode cX8_next 12 = .ok (.getfield 9, 3) := by decide +kernel
theorem dX8_next_15 : decode cX8_next 15 = .ok (.aload_n 0, 1) := by decide +kernel
theorem dX8_next_16 : decode cX8_next 16 = .ok (.getfield 29, 3) := by decide +kernel
theorem dX8_next_19 : decode cX8_next 19 = .ok (.baload, 1) := by decide +kernel
theorem dX8_next_20 : decode cX8_next 20 = .ok (.bipush 32, 2) := by decide +kernel
theorem dX8_next_22 : decode cX8_next 22 = .ok (.if_icmp .eq 17, 3) := by decide +kernel
theorem dX8_next_25 : decode cX8_next 25 = .ok (.aload_n 0, 1) := by decide +kernel
theorem dX8_next_26 : decode cX8_next 26 = .ok (.getfield 9, 3) := by decide +kernel
theorem dX8_next_29 : decode cX8_next 29 = .ok (.aload_n 0, 1) := by decide +kernel
theorem dX8_next_30 : decode cX8_next 30 = .ok (.getfield 29, 3) := by decide +kernel
theorem dX8_next_33 : decode cX8_next 33 = .ok (.baload, 1) := by decide +kernel
theorem dX8_next_34 : decode cX8_next 34 = .ok (.bipush 10, 2) := by decide +kernel
theorem dX8_next_36 : decode cX8_next 36 = .ok (.if_icmp .ne 16, 3) := by decide +kernel
theorem dX8_next_39 : decode cX8_next 39 = .ok (.aload_n 0, 1) := by decide +kernel
theorem dX8_next_40 : decode cX8_next 40 = .ok (.dup, 1) := by decide +kernel
theorem dX8_next_41 : decode cX8_next 41 = .ok (.getfield 29, 3) := by decide +kernel
theorem dX8_next_44 : decode cX8_next 44 = .ok (.iconst 1, 1) := by decide +kernel
theorem dX8_next_45 : decode cX8_next 45 = .ok (.iadd, 1) := by decide +kernel
theorem dX8_next_46 : decode cX8_next 46 = .ok (.putfield 29, 3) := by decide +kernel
theorem dX8_next_49 : decode cX8_next 49 = .ok (.goto (-49), 3) := by decide +kernel
theorem dX8_next_52 : decode cX8_next 52 = .ok (.aload_n 0, 1) := by decide +kernel
theorem dX8_next_53 : decode cX8_next 53 = .ok (.aload_n 0, 1) := by decide +kernel
theorem dX8_next_54 : decode cX8_next 54 = .ok (.getfield 29, 3) := by decide +kernel
theorem dX8_next_57 : decode cX8_next 57 = .ok (.putfield 38, 3) := by decide +kernel
theorem dX8_next_60 : decode cX8_next 60 = .ok (.aload_n 0, 1) := by decide +kernel
theorem dX8_next_61 : decode cX8_next 61 = .ok (.getstatic 13, 3) := by decide +kernel
theorem dX8_next_64 : decode cX8_next 64 = .ok (.putfield 19, 3) := by decide +kernel
theorem dX8_next_67 : decode cX8_next 67 = .ok (.aload_n 0, 1) := by decide +kernel
theorem dX8_next_68 : decode cX8_next 68 = .ok (.getfield 29, 3) := by decide +kernel
theorem dX8_next_71 : decode cX8_next 71 = .ok (.aload_n 0, 1) := by decide +kernel
theorem dX8_next_72 : decode cX8_next 72 = .ok (.getfield 26, 3) := by decide +kernel
theorem dX8_next_75 : decode cX8_next 75 = .ok (.if_icmp .lt 30, 3) := by decide +kernel
theorem dX8_next_78 : decode cX8_next 78 = .ok (.aload_n 0, 1) := by decide +kernel
theorem dX8_next_79 : decode cX8_next 79 = .ok (.getfield 22, 3) := by decide +kernel
theorem dX8_next_82 : decode cX8_next 82 = .ok (.aload_n 0, 1) := by decide +kernel
theorem dX8_next_83 : decode cX8_next 83 = .ok (.getfield 26, 3) := by decide +kernel
theorem dX8_next_86 : decode cX8_next 86 = .ok (.if_icmp .le 19, 3) := by decide +kernel
theorem dX8_next_89 : decode cX8_next 89 = .ok (.aload_n 0, 1) := by decide +kernel
theorem dX8_next_90 : decode cX8_next 90 = .ok (.iconst 1, 1) := by decide +kernel
theorem dX8_next_91 : decode cX8_next 91 = .ok (.putfield 41, 3) := by decide +kernel
theorem dX8_next_94 : decode cX8_next 94 = .ok (.aload_n 0, 1) := by decide +kernel
theorem dX8_next_95 : decode cX8_next 95 = .ok (.aload_n 0, 1) := by decide +kernel
theorem dX8_next_96 : decode cX8_next 96 = .ok (.getfield 26, 3) := by decide +kernel
theorem dX8_next_99 : decode cX8_next 99 = .ok (.putfield 38, 3) := by decide +kernel
theorem dX8_next_102 : decode cX8_next 102 = .ok (.goto 92, 3) := by decide +kernel
theorem dX8_next_105 : decode cX8_next 105 = .ok (.aload_n 0, 1) := by decide +kernel
theorem dX8_next_106 : decode cX8_next 106 = .ok (.getfield 29, 3) := by decide +kernel
theorem dX8_next_109 : decode cX8_next 109 = .ok (.aload_n 0, 1) := by decide +kernel
theorem dX8_next_110 : decode cX8_next 110 = .ok (.getfield 22, 3) := by decide +kernel
theorem dX8_next_113 : decode cX8_next 113 = .ok (.if_icmp .lt 11, 3) := by decide +kernel
theorem dX8_next_116 : decode cX8_next 116 = .ok (.aload_n 0, 1) := by decide +kernel
theorem dX8_next_117 : decode cX8_next 117 = .ok (.iconst 0, 1) := by decide +kernel
theorem dX8_next_118 : decode cX8_next 118 = .ok (.putfield 41, 3) := by decide +kernel
theorem dX8_next_121 : decode cX8_next 121 = .ok (.goto 73, 3) := by decide +kernel
theorem dX8_next_124 : decode cX8_next 124 = .ok (.aload_n 0, 1) := by decide +kernel
theorem dX8_next_125 : decode cX8_next 125 = .ok (.getfield 9, 3) := by decide +kernel
theorem dX8_next_128 : decode cX8_next 128 = .ok (.aload_n 0, 1) := by decide +kernel
theorem dX8_next_129 : decode cX8_next 129 = .ok (.getfield 29, 3) := by decide +kernel
theorem dX8_next_132 : decode cX8_next 132 = .ok (.baload, 1) := by decide +kernel
theorem dX8_next_133 : decode cX8_next 133 = .ok (.invokestatic 44, 3) := by decide +kernel
theorem dX8_next_136 : decode cX8_next 136 = .ok (.ifCond .eq 29, 3) := by decide +kernel
theorem dX8_next_139 : decode cX8_next 139 = .ok (.aload_n 0, 1) := by decide +kernel
theorem dX8_next_140 : decode cX8_next 140 = .ok (.aload_n 0, 1) := by decide +kernel
theorem dX8_next_141 : decode cX8_next 141 = .ok (.getfield 9, 3) := by decide +kernel
theorem dX8_next_144 : decode cX8_next 144 = .ok (.aload_n 0, 1) := by decide +kernel
theorem dX8_next_145 : decode cX8_next 145 = .ok (.getfield 29, 3) := by decide +kernel
theorem dX8_next_148 : decode cX8_next 148 = .ok (.baload, 1) := by decide +kernel
theorem dX8_next_149 : decode cX8_next 149 = .ok (.putfield 41, 3) := by decide +kernel
theorem dX8_next_152 : decode cX8_next 152 = .ok (.aload_n 0, 1) := by decide +kernel
theorem dX8_next_153 : decode cX8_next 153 = .ok (.dup, 1) := by decide +kernel
theorem dX8_next_154 : decode cX8_next 154 = .ok (.getfield 29, 3) := by decide +kernel
theorem dX8_next_157 : decode cX8_next 157 = .ok (.iconst 1, 1) := by decide +kernel
theorem dX8_next_158 : decode cX8_next 158 = .ok (.iadd, 1) := by decide +kernel
theorem dX8_next_159 : decode cX8_next 159 = .ok (.putfield 29, 3) := by decide +kernel
theorem dX8_next_162 : decode cX8_next 162 = .ok (.goto 32, 3) := by decide +kernel
theorem dX8_next_165 : decode cX8_next 165 = .ok (.aload_n 0, 1) := by decide +kernel
theorem dX8_next_166 : decode cX8_next 166 = .ok (.invokevirtual 48, 3) := by decide +kernel
theorem dX8_next_169 : decode cX8_next 169 = .ok (.aload_n 0, 1) := by decide +kernel
theorem dX8_next_170 : decode cX8_next 170 = .ok (.aload_n 0, 1) := by decide +kernel
theorem dX8_next_171 : decode cX8_next 171 = .ok (.getfield 41, 3) := by decide +kernel
theorem dX8_next_174 : decode cX8_next 174 = .ok (.iconst 2, 1) := by decide +kernel
theorem dX8_next_175 : decode cX8_next 175 = .ok (.if_icmp .ne 13, 3) := by decide +kernel
theorem dX8_next_178 : decode cX8_next 178 = .ok (.aload_n 0, 1) := by decide +kernel
theorem dX8_next_179 : decode cX8_next 179 = .ok (.getfield 51, 3) := by decide +kernel
theorem dX8_next_182 : decode cX8_next 182 = .ok (.invokestatic 55, 3) := by decide +kernel
theorem dX8_next_185 : decode cX8_next 185 = .ok (.goto 6, 3) := by decide +kernel
theorem dX8_next_188 : decode cX8_next 188 = .ok (.getstatic 13, 3) := by decide +kernel
theorem dX8_next_191 : decode cX8_next 191 = .ok (.putfield 19, 3) := by decide +kernel
theorem dX8_next_194 : decode cX8_next 194 = .ok (.return_, 1) := by decide +kernel
theorem dX8_isSign_0 : decode cX8_isSign 0 = .ok (.iload_n 0, 1) := by decide +kernel
theorem dX8_isSign_1 : decode cX8_isSign 1 = .ok (.bipush 59, 2) := by decide +kernel
theorem dX8_isSign_3 : decode cX8_isSign 3 = .ok (.if_icmp .eq 33, 3) := by decide +kernel
theorem dX8_isSign_6 : decode cX8_isSign 6 = .ok (.iload_n 0, 1) := by decide +kernel
theorem dX8_isSign_7 : decode cX8_isSign 7 = .ok (.bipush 60, 2) := by decide +kernel
theorem dX8_isSign_9 : decode cX8_isSign 9 = .ok (.if_icmp .eq 27, 3) := by decide +kernel
theorem dX8_isSign_12 : decode cX8_isSign 12 = .ok (.iload_n 0, 1) := by decide +kernel
theorem dX8_isSign_13 : decode cX8_isSign 13 = .ok (.bipush 61, 2) := by decide +kernel
theorem dX8_isSign_15 : decode cX8_isSign 15 = .ok (.if_icmp .eq 21, 3) := by decide +kernel
theorem dX8_isSign_18 : decode cX8_isSign 18 = .ok (.iload_n 0, 1) := by decide +kernel
theorem dX8_isSign_19 : decode cX8_isSign 19 = .ok (.bipush 62, 2) := by decide +kernel
theorem dX8_isSign_21 : decode cX8_isSign 21 = .ok (.if_icmp .eq 15, 3) := by decide +kernel
theorem dX8_isSign_24 : decode cX8_isSign 24 = .ok (.iload_n 0, 1) := by decide +kernel
theorem dX8_isSign_25 : decode cX8_isSign 25 = .ok (.bipush 40, 2) := by decide +kernel
theorem dX8_isSign_27 : decode cX8_isSign 27 = .ok (.if_icmp .eq 9, 3) := by decide +kernel
theorem dX8_isSign_30 : decode cX8_isSign 30 = .ok (.iload_n 0, 1) := by decide +kernel
theorem dX8_isSign_31 : decode cX8_isSign 31 = .ok (.bipush 41, 2) := by decide +kernel
theorem dX8_isSign_33 : decode cX8_isSign 33 = .ok (.if_icmp .ne 7, 3) := by decide +kernel
theorem dX8_isSign_36 : decode cX8_isSign 36 = .ok (.iconst 1, 1) := by decide +kernel
theorem dX8_isSign_37 : decode cX8_isSign 37 = .ok (.goto 4, 3) := by decide +kernel
theorem dX8_isSign_40 : decode cX8_isSign 40 = .ok (.iconst 0, 1) := by decide +kernel
theorem dX8_isSign_41 : decode cX8_isSign 41 = .ok (.ireturn, 1) := by decide +kernel
theorem dX8_readRun_0 : decode cX8_readRun 0 = .ok (.iconst 0, 1) := by decide +kernel
theorem dX8_readRun_1 : decode cX8_readRun 1 = .ok (.istore_n 1, 1) := by decide +kernel
theorem dX8_readRun_2 : decode cX8_readRun 2 = .ok (.iconst 0, 1) := by decide +kernel
theorem dX8_readRun_3 : decode cX8_readRun 3 = .ok (.istore_n 2, 1) := by decide +kernel
theorem dX8_readRun_4 : decode cX8_readRun 4 = .ok (.aload_n 0, 1) := by decide +kernel
theorem dX8_readRun_5 : decode cX8_readRun 5 = .ok (.lconst 0, 1) := by decide +kernel
theorem dX8_readRun_6 : decode cX8_readRun 6 = .ok (.putfield 51, 3) := by decide +kernel
theorem dX8_readRun_9 : decode cX8_readRun 9 = .ok (.aload_n 0, 1) := by decide +kernel
theorem dX8_readRun_10 : decode cX8_readRun 10 = .ok (.iconst 0, 1) := by decide +kernel
theorem dX8_readRun_11 : decode cX8_readRun 11 = .ok (.putfield 59, 3) := by decide +kernel
theorem dX8_readRun_14 : decode cX8_readRun 14 = .ok (.iconst 1, 1) := by decide +kernel
theorem dX8_readRun_15 : decode cX8_readRun 15 = .ok (.istore_n 3, 1) := by decide +kernel
theorem dX8_readRun_16 : decode cX8_readRun 16 = .ok (.iload_n 3, 1) := by decide +kernel
theorem dX8_readRun_17 : decode cX8_readRun 17 = .ok (.ifCond .eq 127, 3) := by decide +kernel
theorem dX8_readRun_20 : decode cX8_readRun 20 = .ok (.aload_n 0, 1) := by decide +kernel
theorem dX8_readRun_21 : decode cX8_readRun 21 = .ok (.getfield 29, 3) := by decide +kernel
theorem dX8_readRun_24 : decode cX8_readRun 24 = .ok (.aload_n 0, 1) := by decide +kernel
theorem dX8_readRun_25 : decode cX8_readRun 25 = .ok (.getfield 22, 3) := by decide +kernel
theorem dX8_readRun_28 : decode cX8_readRun 28 = .ok (.if_icmp .ge 116, 3) := by decide +kernel
theorem dX8_readRun_31 : decode cX8_readRun 31 = .ok (.aload_n 0, 1) := by decide +kernel
theorem dX8_readRun_32 : decode cX8_readRun 32 = .ok (.getfield 9, 3) := by decide +kernel
theorem dX8_readRun_35 : decode cX8_readRun 35 = .ok (.aload_n 0, 1) := by decide +kernel
theorem dX8_readRun_36 : decode cX8_readRun 36 = .ok (.getfield 29, 3) := by decide +kernel
theorem dX8_readRun_39 : decode cX8_readRun 39 = .ok (.baload, 1) := by decide +kernel
theorem dX8_readRun_40 : decode cX8_readRun 40 = .ok (.istore 4, 2) := by decide +kernel
theorem dX8_readRun_42 : decode cX8_readRun 42 = .ok (.iload 4, 2) := by decide +kernel
theorem dX8_readRun_44 : decode cX8_readRun 44 = .ok (.bipush 97, 2) := by decide +kernel
theorem dX8_readRun_46 : decode cX8_readRun 46 = .ok (.if_icmp .lt 35, 3) := by decide +kernel
theorem dX8_readRun_49 : decode cX8_readRun 49 = .ok (.iload 4, 2) := by decide +kernel
theorem dX8_readRun_51 : decode cX8_readRun 51 = .ok (.bipush 122, 2) := by decide +kernel
theorem dX8_readRun_53 : decode cX8_readRun 53 = .ok (.if_icmp .gt 28, 3) := by decide +kernel
theorem dX8_readRun_56 : decode cX8_readRun 56 = .ok (.iinc 1 1, 3) := by decide +kernel
theorem dX8_readRun_59 : decode cX8_readRun 59 = .ok (.aload_n 0, 1) := by decide +kernel
theorem dX8_readRun_60 : decode cX8_readRun 60 = .ok (.aload_n 0, 1) := by decide +kernel
theorem dX8_readRun_61 : decode cX8_readRun 61 = .ok (.getfield 51, 3) := by decide +kernel
theorem dX8_readRun_64 : decode cX8_readRun 64 = .ok (.iconst 5, 1) := by decide +kernel
theorem dX8_readRun_65 : decode cX8_readRun 65 = .ok (.lshl, 1) := by decide +kernel
theorem dX8_readRun_66 : decode cX8_readRun 66 = .ok (.iload 4, 2) := by decide +kernel
theorem dX8_readRun_68 : decode cX8_readRun 68 = .ok (.bipush 97, 2) := by decide +kernel
theorem dX8_readRun_70 : decode cX8_readRun 70 = .ok (.isub, 1) := by decide +kernel
theorem dX8_readRun_71 : decode cX8_readRun 71 = .ok (.iconst 1, 1) := by decide +kernel
theorem dX8_readRun_72 : decode cX8_readRun 72 = .ok (.iadd, 1) := by decide +kernel
theorem dX8_readRun_73 : decode cX8_readRun 73 = .ok (.i2l, 1) := by decide +kernel
theorem dX8_readRun_74 : decode cX8_readRun 74 = .ok (.lor, 1) := by decide +kernel
theorem dX8_readRun_75 : decode cX8_readRun 75 = .ok (.putfield 51, 3) := by decide +kernel
theorem dX8_readRun_78 : decode cX8_readRun 78 = .ok (.goto 42, 3) := by decide +kernel
theorem dX8_readRun_81 : decode cX8_readRun 81 = .ok (.iload 4, 2) := by decide +kernel
theorem dX8_readRun_83 : decode cX8_readRun 83 = .ok (.bipush 48, 2) := by decide +kernel
theorem dX8_readRun_85 : decode cX8_readRun 85 = .ok (.if_icmp .lt 33, 3) := by decide +kernel
theorem dX8_readRun_88 : decode cX8_readRun 88 = .ok (.iload 4, 2) := by decide +kernel
theorem dX8_readRun_90 : decode cX8_readRun 90 = .ok (.bipush 57, 2) := by decide +kernel
theorem dX8_readRun_92 : decode cX8_readRun 92 = .ok (.if_icmp .gt 26, 3) := by decide +kernel
theorem dX8_readRun_95 : decode cX8_readRun 95 = .ok (.iinc 2 1, 3) := by decide +kernel
theorem dX8_readRun_98 : decode cX8_readRun 98 = .ok (.aload_n 0, 1) := by decide +kernel
theorem dX8_readRun_99 : decode cX8_readRun 99 = .ok (.aload_n 0, 1) := by decide +kernel
theorem dX8_readRun_100 : decode cX8_readRun 100 = .ok (.getfield 59, 3) := by decide +kernel
theorem dX8_readRun_103 : decode cX8_readRun 103 = .ok (.bipush 10, 2) := by decide +kernel
theorem dX8_readRun_105 : decode cX8_readRun 105 = .ok (.imul, 1) := by decide +kernel
theorem dX8_readRun_106 : decode cX8_readRun 106 = .ok (.iload 4, 2) := by decide +kernel
theorem dX8_readRun_108 : decode cX8_readRun 108 = .ok (.iadd, 1) := by decide +kernel
theorem dX8_readRun_109 : decode cX8_readRun 109 = .ok (.bipush 48, 2) := by decide +kernel
theorem dX8_readRun_111 : decode cX8_readRun 111 = .ok (.isub, 1) := by decide +kernel
theorem dX8_readRun_112 : decode cX8_readRun 112 = .ok (.putfield 59, 3) := by decide +kernel
theorem dX8_readRun_115 : decode cX8_readRun 115 = .ok (.goto 5, 3) := by decide +kernel
theorem dX8_readRun_118 : decode cX8_readRun 118 = .ok (.iconst 0, 1) := by decide +kernel
theorem dX8_readRun_119 : decode cX8_readRun 119 = .ok (.istore_n 3, 1) := by decide +kernel
theorem dX8_readRun_120 : decode cX8_readRun 120 = .ok (.aload_n 0, 1) := by decide +kernel
theorem dX8_readRun_121 : decode cX8_readRun 121 = .ok (.iload_n 3, 1) := by decide +kernel
theorem dX8_readRun_122 : decode cX8_readRun 122 = .ok (.ifCond .eq 12, 3) := by decide +kernel
theorem dX8_readRun_125 : decode cX8_readRun 125 = .ok (.aload_n 0, 1) := by decide +kernel
theorem dX8_readRun_126 : decode cX8_readRun 126 = .ok (.getfield 29, 3) := by decide +kernel
theorem dX8_readRun_129 : decode cX8_readRun 129 = .ok (.iconst 1, 1) := by decide +kernel
theorem dX8_readRun_130 : decode cX8_readRun 130 = .ok (.iadd, 1) := by decide +kernel
theorem dX8_readRun_131 : decode cX8_readRun 131 = .ok (.goto 7, 3) := by decide +kernel
theorem dX8_readRun_134 : decode cX8_readRun 134 = .ok (.aload_n 0, 1) := by decide +kernel
theorem dX8_readRun_135 : decode cX8_readRun 135 = .ok (.getfield 29, 3) := by decide +kernel
theorem dX8_readRun_138 : decode cX8_readRun 138 = .ok (.putfield 29, 3) := by decide +kernel
theorem dX8_readRun_141 : decode cX8_readRun 141 = .ok (.goto (-125), 3) := by decide +kernel
theorem dX8_readRun_144 : decode cX8_readRun 144 = .ok (.aload_n 0, 1) := by decide +kernel
theorem dX8_readRun_145 : decode cX8_readRun 145 = .ok (.iconst 1, 1) := by decide +kernel
theorem dX8_readRun_146 : decode cX8_readRun 146 = .ok (.putfield 41, 3) := by decide +kernel
theorem dX8_readRun_149 : decode cX8_readRun 149 = .ok (.iload_n 2, 1) := by decide +kernel
theorem dX8_readRun_150 : decode cX8_readRun 150 = .ok (.ifCond .ne 21, 3) := by decide +kernel
theorem dX8_readRun_153 : decode cX8_readRun 153 = .ok (.iload_n 1, 1) := by decide +kernel
theorem dX8_readRun_154 : decode cX8_readRun 154 = .ok (.ifCond .le 17, 3) := by decide +kernel
theorem dX8_readRun_157 : decode cX8_readRun 157 = .ok (.iload_n 1, 1) := by decide +kernel
theorem dX8_readRun_158 : decode cX8_readRun 158 = .ok (.bipush 7, 2) := by decide +kernel
theorem dX8_readRun_160 : decode cX8_readRun 160 = .ok (.if_icmp .gt 11, 3) := by decide +kernel
theorem dX8_readRun_163 : decode cX8_readRun 163 = .ok (.aload_n 0, 1) := by decide +kernel
theorem dX8_readRun_164 : decode cX8_readRun 164 = .ok (.iconst 2, 1) := by decide +kernel
theorem dX8_readRun_165 : decode cX8_readRun 165 = .ok (.putfield 41, 3) := by decide +kernel
theorem dX8_readRun_168 : decode cX8_readRun 168 = .ok (.goto 21, 3) := by decide +kernel
theorem dX8_readRun_171 : decode cX8_readRun 171 = .ok (.iload_n 1, 1) := by decide +kernel
theorem dX8_readRun_172 : decode cX8_readRun 172 = .ok (.ifCond .ne 17, 3) := by decide +kernel
theorem dX8_readRun_175 : decode cX8_readRun 175 = .ok (.iload_n 2, 1) := by decide +kernel
theorem dX8_readRun_176 : decode cX8_readRun 176 = .ok (.ifCond .le 13, 3) := by decide +kernel
theorem dX8_readRun_179 : decode cX8_readRun 179 = .ok (.iload_n 2, 1) := by decide +kernel
theorem dX8_readRun_180 : decode cX8_readRun 180 = .ok (.iconst 3, 1) := by decide +kernel
theorem dX8_readRun_181 : decode cX8_readRun 181 = .ok (.if_icmp .gt 8, 3) := by decide +kernel
theorem dX8_readRun_184 : decode cX8_readRun 184 = .ok (.aload_n 0, 1) := by decide +kernel
theorem dX8_readRun_185 : decode cX8_readRun 185 = .ok (.iconst 3, 1) := by decide +kernel
theorem dX8_readRun_186 : decode cX8_readRun 186 = .ok (.putfield 41, 3) := by decide +kernel
theorem dX8_readRun_189 : decode cX8_readRun 189 = .ok (.return_, 1) := by decide +kernel
theorem dX8_takeNumber_0 : decode cX8_takeNumber 0 = .ok (.aload_n 0, 1) := by decide +kernel
theorem dX8_takeNumber_1 : decode cX8_takeNumber 1 = .ok (.invokevirtual 62, 3) := by decide +kernel
theorem dX8_takeNumber_4 : decode cX8_takeNumber 4 = .ok (.aload_n 0, 1) := by decide +kernel
theorem dX8_takeNumber_5 : decode cX8_takeNumber 5 = .ok (.getfield 41, 3) := by decide +kernel
theorem dX8_takeNumber_8 : decode cX8_takeNumber 8 = .ok (.iconst 3, 1) := by decide +kernel
theorem dX8_takeNumber_9 : decode cX8_takeNumber 9 = .ok (.if_icmp .eq 9, 3) := by decide +kernel
theorem dX8_takeNumber_12 : decode cX8_takeNumber 12 = .ok (.aload_n 0, 1) := by decide +kernel
theorem dX8_takeNumber_13 : decode cX8_takeNumber 13 = .ok (.iconst 1, 1) := by decide +kernel
theorem dX8_takeNumber_14 : decode cX8_takeNumber 14 = .ok (.invokevirtual 65, 3) := by decide +kernel
theorem dX8_takeNumber_17 : decode cX8_takeNumber 17 = .ok (.ireturn, 1) := by decide +kernel
theorem dX8_takeNumber_18 : decode cX8_takeNumber 18 = .ok (.aload_n 0, 1) := by decide +kernel
theorem dX8_takeNumber_19 : decode cX8_takeNumber 19 = .ok (.getfield 59, 3) := by decide +kernel
theorem dX8_takeNumber_22 : decode cX8_takeNumber 22 = .ok (.iload_n 1, 1) := by decide +kernel
theorem dX8_takeNumber_23 : decode cX8_takeNumber 23 = .ok (.if_icmp .lt 11, 3) := by decide +kernel
theorem dX8_takeNumber_26 : decode cX8_takeNumber 26 = .ok (.aload_n 0, 1) := by decide +kernel
theorem dX8_takeNumber_27 : decode cX8_takeNumber 27 = .ok (.getfield 59, 3) := by decide +kernel
theorem dX8_takeNumber_30 : decode cX8_takeNumber 30 = .ok (.iload_n 2, 1) := by decide +kernel
theorem dX8_takeNumber_31 : decode cX8_takeNumber 31 = .ok (.if_icmp .le 11, 3) := by decide +kernel
theorem dX8_takeNumber_34 : decode cX8_takeNumber 34 = .ok (.aload_n 0, 1) := by decide +kernel
theorem dX8_takeNumber_35 : decode cX8_takeNumber 35 = .ok (.iconst 2, 1) := by decide +kernel
theorem dX8_takeNumber_36 : decode cX8_takeNumber 36 = .ok (.invokevirtual 65, 3) := by decide +kernel
theorem dX8_takeNumber_39 : decode cX8_takeNumber 39 = .ok (.ifCond .eq 7, 3) := by decide +kernel
theorem dX8_takeNumber_42 : decode cX8_takeNumber 42 = .ok (.iconst 1, 1) := by decide +kernel
theorem dX8_takeNumber_43 : decode cX8_takeNumber 43 = .ok (.goto 4, 3) := by decide +kernel
theorem dX8_takeNumber_46 : decode cX8_takeNumber 46 = .ok (.iconst 0, 1) := by decide +kernel
theorem dX8_takeNumber_47 : decode cX8_takeNumber 47 = .ok (.ireturn, 1) := by decide +kernel
theorem dX8_takeSemicolon_0 : decode cX8_takeSemicolon 0 = .ok (.aload_n 0, 1) := by decide +kernel
theorem dX8_takeSemicolon_1 : decode cX8_takeSemicolon 1 = .ok (.invokevirtual 62, 3) := by decide +kernel
theorem dX8_takeSemicolon_4 : decode cX8_takeSemicolon 4 = .ok (.aload_n 0, 1) := by decide +kernel
theorem dX8_takeSemicolon_5 : decode cX8_takeSemicolon 5 = .ok (.getfield 41, 3) := by decide +kernel
theorem dX8_takeSemicolon_8 : decode cX8_takeSemicolon 8 = .ok (.bipush 59, 2) := by decide +kernel
theorem dX8_takeSemicolon_10 : decode cX8_takeSemicolon 10 = .ok (.if_icmp .eq 11, 3) := by decide +kernel
theorem dX8_takeSemicolon_13 : decode cX8_takeSemicolon 13 = .ok (.aload_n 0, 1) := by decide +kernel
theorem dX8_takeSemicolon_14 : decode cX8_takeSemicolon 14 = .ok (.iconst 1, 1) := by decide +kernel
theorem dX8_takeSemicolon_15 : decode cX8_takeSemicolon 15 = .ok (.invokevirtual 65, 3) := by decide +kernel
theorem dX8_takeSemicolon_18 : decode cX8_takeSemicolon 18 = .ok (.ifCond .eq 7, 3) := by decide +kernel
theorem dX8_takeSemicolon_21 : decode cX8_takeSemicolon 21 = .ok (.iconst 1, 1) := by decide +kernel
theorem dX8_takeSemicolon_22 : decode cX8_takeSemicolon 22 = .ok (.goto 4, 3) := by decide +kernel
theorem dX8_takeSemicolon_25 : decode cX8_takeSemicolon 25 = .ok (.iconst 0, 1) := by decide +kernel
theorem dX8_takeSemicolon_26 : decode cX8_takeSemicolon 26 = .ok (.ireturn, 1) := by decide +kernel
theorem dX9_init_0 : decode cX9_init 0 = .ok (.aload_n 0, 1) := by decide +kernel
theorem dX9_init_1 : decode cX9_init 1 = .ok (.invokespecial 3, 3) := by decide +kernel
theorem dX9_init_4 : decode cX9_init 4 = .ok (.aload_n 0, 1) := by decide +kernel
theorem dX9_init_5 : decode cX9_init 5 = .ok (.bipush 8, 2) := by decide +kernel
theorem dX9_init_7 : decode cX9_init 7 = .ok (.anewarray 11, 3) := by decide +kernel
theorem dX9_init_10 : decode cX9_init 10 = .ok (.putfield 13, 3) := by decide +kernel
theorem dX9_init_13 : decode cX9_init 13 = .ok (.iconst 0, 1) := by decide +kernel
theorem dX9_init_14 : decode cX9_init 14 = .ok (.istore_n 2, 1) := by decide +kernel
theorem dX9_init_15 : decode cX9_init 15 = .ok (.iload_n 2, 1) := by decide +kernel
theorem dX9_init_16 : decode cX9_init 16 = .ok (.bipush 8, 2) := by decide +kernel
theorem dX9_init_18 : decode cX9_init 18 = .ok (.if_icmp .ge 23, 3) := by decide +kernel
theorem dX9_init_21 : decode cX9_init 21 = .ok (.aload_n 0, 1) := by decide +kernel
theorem dX9_init_22 : decode cX9_init 22 = .ok (.getfield 13, 3) := by decide +kernel
theorem dX9_init_25 : decode cX9_init 25 = .ok (.iload_n 2, 1) := by decide +kernel
theorem dX9_init_26 : decode cX9_init 26 = .ok (.new 11, 3) := by decide +kernel
theorem dX9_init_29 : decode cX9_init 29 = .ok (.dup, 1) := by decide +kernel
theorem dX9_init_30 : decode cX9_init 30 = .ok (.aload_n 1, 1) := by decide +kernel
theorem dX9_init_31 : decode cX9_init 31 = .ok (.invokespecial 17, 3) := by decide +kernel
theorem dX9_init_34 : decode cX9_init 34 = .ok (.aastore, 1) := by decide +kernel
theorem dX9_init_35 : decode cX9_init 35 = .ok (.iinc 2 1, 3) := by decide +kernel
theorem dX9_init_38 : decode cX9_init 38 = .ok (.goto (-23), 3) := by decide +kernel
theorem dX9_init_41 : decode cX9_init 41 = .ok (.return_, 1) := by decide +kernel
theorem dX9_forget_0 : decode cX9_forget 0 = .ok (.aload_n 0, 1) := by decide +kernel
theorem dX9_forget_1 : decode cX9_forget 1 = .ok (.iconst 0, 1) := by decide +kernel
theorem dX9_forget_2 : decode cX9_forget 2 = .ok (.putfield 20, 3) := by decide +kernel
theorem dX9_forget_5 : decode cX9_forget 5 = .ok (.return_, 1) := by decide +kernel
theorem dX9_keep_0 : decode cX9_keep 0 = .ok (.aload_n 0, 1) := by decide +kernel
theorem dX9_keep_1 : decode cX9_keep 1 = .ok (.getfield 20, 3) := by decide +kernel
theorem dX9_keep_4 : decode cX9_keep 4 = .ok (.bipush 8, 2) := by decide +kernel
theorem dX9_keep_6 : decode cX9_keep 6 = .ok (.if_icmp .ne 7, 3) := by decide +kernel
theorem dX9_keep_9 : decode cX9_keep 9 = .ok (.aload_n 0, 1) := by decide +kernel
theorem dX9_keep_10 : decode cX9_keep 10 = .ok (.invokevirtual 24, 3) := by decide +kernel
theorem dX9_keep_13 : decode cX9_keep 13 = .ok (.aload_n 0, 1) := by decide +kernel
theorem dX9_keep_14 : decode cX9_keep 14 = .ok (.getfield 13, 3) := by decide +kernel
theorem dX9_keep_17 : decode cX9_keep 17 = .ok (.aload_n 0, 1) := by decide +kernel
theorem dX9_keep_18 : decode cX9_keep 18 = .ok (.getfield 20, 3) := by decide +kernel
theorem dX9_keep_21 : decode cX9_keep 21 = .ok (.aaload, 1) := by decide +kernel
theorem dX9_keep_22 : decode cX9_keep 22 = .ok (.aload_n 1, 1) := by decide +kernel
theorem dX9_keep_23 : decode cX9_keep 23 = .ok (.invokevirtual 27, 3) := by decide +kernel
theorem dX9_keep_26 : decode cX9_keep 26 = .ok (.aload_n 0, 1) := by decide +kernel
theorem dX9_keep_27 : decode cX9_keep 27 = .ok (.dup, 1) := by decide +kernel
theorem dX9_keep_28 : decode cX9_keep 28 = .ok (.getfield 20, 3) := by decide +kernel
theorem dX9_keep_31 : decode cX9_keep 31 = .ok (.iconst 1, 1) := by decide +kernel
theorem dX9_keep_32 : decode cX9_keep 32 = .ok (.iadd, 1) := by decide +kernel
theorem dX9_keep_33 : decode cX9_keep 33 = .ok (.putfield 20, 3) := by decide +kernel
theorem dX9_keep_36 : decode cX9_keep 36 = .ok (.return_, 1) := by decide +kernel
theorem dX9_dropOldest_0 : decode cX9_dropOldest 0 = .ok (.aload_n 0, 1) := by decide +kernel
theorem dX9_dropOldest_1 : decode cX9_dropOldest 1 = .ok (.getfield 13, 3) := by decide +kernel
theorem dX9_dropOldest_4 : decode cX9_dropOldest 4 = .ok (.iconst 0, 1) := by decide +kernel
theorem dX9_dropOldest_5 : decode cX9_dropOldest 5 = .ok (.aaload, 1) := by decide +kernel
theorem dX9_dropOldest_6 : decode cX9_dropOldest 6 = .ok (.astore_n 1, 1) := by decide +kernel
theorem dX9_dropOldest_7 : decode cX9_dropOldest 7 = .ok (.iconst 1, 1) := by decide +kernel
theorem dX9_dropOldest_8 : decode cX9_dropOldest 8 = .ok (.istore_n 2, 1) := by decide +kernel
theorem dX9_dropOldest_9 : decode cX9_dropOldest 9 = .ok (.iload_n 2, 1) := by decide +kernel
theorem dX9_dropOldest_10 : decode cX9_dropOldest 10 = .ok (.bipush 8, 2) := by decide +kernel
theorem dX9_dropOldest_12 : decode cX9_dropOldest 12 = .ok (.if_icmp .ge 23, 3) := by decide +kernel
theorem dX9_dropOldest_15 : decode cX9_dropOldest 15 = .ok (.aload_n 0, 1) := by decide +kernel
theorem dX9_dropOldest_16 : decode cX9_dropOldest 16 = .ok (.getfield 13, 3) := by decide +kernel
theorem dX9_dropOldest_19 : decode cX9_dropOldest 19 = .ok (.iload_n 2, 1) := by decide +kernel
theorem dX9_dropOldest_20 : decode cX9_dropOldest 20 = .ok (.iconst 1, 1) := by decide +kernel
theorem dX9_dropOldest_21 : decode cX9_dropOldest 21 = .ok (.isub, 1) := by decide +kernel
theorem dX9_dropOldest_22 : decode cX9_dropOldest 22 = .ok (.aload_n 0, 1) := by decide +kernel
theorem dX9_dropOldest_23 : decode cX9_dropOldest 23 = .ok (.getfield 13, 3) := by decide +kernel
theorem dX9_dropOldest_26 : decode cX9_dropOldest 26 = .ok (.iload_n 2, 1) := by decide +kernel
theorem dX9_dropOldest_27 : decode cX9_dropOldest 27 = .ok (.aaload, 1) := by decide +kernel
theorem dX9_dropOldest_28 : decode cX9_dropOldest 28 = .ok (.aastore, 1) := by decide +kernel
theorem dX9_dropOldest_29 : decode cX9_dropOldest 29 = .ok (.iinc 2 1, 3) := by decide +kernel
theorem dX9_dropOldest_32 : decode cX9_dropOldest 32 = .ok (.goto (-23), 3) := by decide +kernel
theorem dX9_dropOldest_35 : decode cX9_dropOldest 35 = .ok (.aload_n 0, 1) := by decide +kernel
theorem dX9_dropOldest_36 : decode cX9_dropOldest 36 = .ok (.getfield 13, 3) := by decide +kernel
theorem dX9_dropOldest_39 : decode cX9_dropOldest 39 = .ok (.bipush 7, 2) := by decide +kernel
theorem dX9_dropOldest_41 : decode cX9_dropOldest 41 = .ok (.aload_n 1, 1) := by decide +kernel
theorem dX9_dropOldest_42 : decode cX9_dropOldest 42 = .ok (.aastore, 1) := by decide +kernel
theorem dX9_dropOldest_43 : decode cX9_dropOldest 43 = .ok (.aload_n 0, 1) := by decide +kernel
theorem dX9_dropOldest_44 : decode cX9_dropOldest 44 = .ok (.dup, 1) := by decide +kernel
theorem dX9_dropOldest_45 : decode cX9_dropOldest 45 = .ok (.getfield 20, 3) := by decide +kernel
theorem dX9_dropOldest_48 : decode cX9_dropOldest 48 = .ok (.iconst 1, 1) := by decide +kernel
theorem dX9_dropOldest_49 : decode cX9_dropOldest 49 = .ok (.isub, 1) := by decide +kernel
theorem dX9_dropOldest_50 : decode cX9_dropOldest 50 = .ok (.putfield 20, 3) := by decide +kernel
theorem dX9_dropOldest_53 : decode cX9_dropOldest 53 = .ok (.return_, 1) := by decide +kernel
theorem dX9_takeBack_0 : decode cX9_takeBack 0 = .ok (.aload_n 0, 1) := by decide +kernel
theorem dX9_takeBack_1 : decode cX9_takeBack 1 = .ok (.getfield 20, 3) := by decide +kernel
theorem dX9_takeBack_4 : decode cX9_takeBack 4 = .ok (.ifCond .ne 5, 3) := by decide +kernel
theorem dX9_takeBack_7 : decode cX9_takeBack 7 = .ok (.iconst (-1), 1) := by decide +kernel
theorem dX9_takeBack_8 : decode cX9_takeBack 8 = .ok (.ireturn, 1) := by decide +kernel
theorem dX9_takeBack_9 : decode cX9_takeBack 9 = .ok (.aload_n 0, 1) := by decide +kernel
theorem dX9_takeBack_10 : decode cX9_takeBack 10 = .ok (.dup, 1) := by decide +kernel
theorem dX9_takeBack_11 : decode cX9_takeBack 11 = .ok (.getfield 20, 3) := by decide +kernel
theorem dX9_takeBack_14 : decode cX9_takeBack 14 = .ok (.iconst 1, 1) := by decide +kernel
theorem dX9_takeBack_15 : decode cX9_takeBack 15 = .ok (.isub, 1) := by decide +kernel
theorem dX9_takeBack_16 : decode cX9_takeBack 16 = .ok (.putfield 20, 3) := by decide +kernel
theorem dX9_takeBack_19 : decode cX9_takeBack 19 = .ok (.aload_n 1, 1) := by decide +kernel
theorem dX9_takeBack_20 : decode cX9_takeBack 20 = .ok (.aload_n 0, 1) := by decide +kernel
theorem dX9_takeBack_21 : decode cX9_takeBack 21 = .ok (.getfield 13, 3) := by decide +kernel
theorem dX9_takeBack_24 : decode cX9_takeBack 24 = .ok (.aload_n 0, 1) := by decide +kernel
theorem dX9_takeBack_25 : decode cX9_takeBack 25 = .ok (.getfield 20, 3) := by decide +kernel
theorem dX9_takeBack_28 : decode cX9_takeBack 28 = .ok (.aaload, 1) := by decide +kernel
theorem dX9_takeBack_29 : decode cX9_takeBack 29 = .ok (.invokevirtual 27, 3) := by decide +kernel
theorem dX9_takeBack_32 : decode cX9_takeBack 32 = .ok (.aload_n 0, 1) := by decide +kernel
theorem dX9_takeBack_33 : decode cX9_takeBack 33 = .ok (.getfield 20, 3) := by decide +kernel
theorem dX9_takeBack_36 : decode cX9_takeBack 36 = .ok (.ireturn, 1) := by decide +kernel
theorem dX10_init_0 : decode cX10_init 0 = .ok (.aload_n 0, 1) := by decide +kernel
theorem dX10_init_1 : decode cX10_init 1 = .ok (.invokespecial 3, 3) := by decide +kernel
theorem dX10_init_4 : decode cX10_init 4 = .ok (.aload_n 0, 1) := by decide +kernel
theorem dX10_init_5 : decode cX10_init 5 = .ok (.sipush 540, 3) := by decide +kernel
theorem dX10_init_8 : decode cX10_init 8 = .ok (.newarray .int, 2) := by decide +kernel
theorem dX10_init_10 : decode cX10_init 10 = .ok (.putfield 9, 3) := by decide +kernel
theorem dX10_init_13 : decode cX10_init 13 = .ok (.aload_n 0, 1) := by decide +kernel
theorem dX10_init_14 : decode cX10_init 14 = .ok (.bipush 60, 2) := by decide +kernel
theorem dX10_init_16 : decode cX10_init 16 = .ok (.newarray .int, 2) := by decide +kernel
theorem dX10_init_18 : decode cX10_init 18 = .ok (.putfield 15, 3) := by decide +kernel
theorem dX10_init_21 : decode cX10_init 21 = .ok (.aload_n 0, 1) := by decide +kernel
theorem dX10_init_22 : decode cX10_init 22 = .ok (.bipush 60, 2) := by decide +kernel
theorem dX10_init_24 : decode cX10_init 24 = .ok (.newarray .int, 2) := by decide +kernel
theorem dX10_init_26 : decode cX10_init 26 = .ok (.putfield 18, 3) := by decide +kernel
theorem dX10_init_29 : decode cX10_init 29 = .ok (.aload_n 0, 1) := by decide +kernel
theorem dX10_init_30 : decode cX10_init 30 = .ok (.aload_n 1, 1) := by decide +kernel
theorem dX10_init_31 : decode cX10_init 31 = .ok (.putfield 21, 3) := by decide +kernel
theorem dX10_init_34 : decode cX10_init 34 = .ok (.return_, 1) := by decide +kernel
theorem dX10_wakingAt_0 : decode cX10_wakingAt 0 = .ok (.iload_n 1, 1) := by decide +kernel
theorem dX10_wakingAt_1 : decode cX10_wakingAt 1 = .ok (.ifCond .lt 20, 3) := by decide +kernel
theorem dX10_wakingAt_4 : decode cX10_wakingAt 4 = .ok (.iload_n 1, 1) := by decide +kernel
theorem dX10_wakingAt_5 : decode cX10_wakingAt 5 = .ok (.aload_n 0, 1) := by decide +kernel
theorem dX10_wakingAt_6 : decode cX10_wakingAt 6 = .ok (.getfield 25, 3) := by decide +kernel
theorem dX10_wakingAt_9 : decode cX10_wakingAt 9 = .ok (.if_icmp .ge 12, 3) := by decide +kernel
theorem dX10_wakingAt_12 : decode cX10_wakingAt 12 = .ok (.aload_n 0, 1) := by decide +kernel
theorem dX10_wakingAt_13 : decode cX10_wakingAt 13 = .ok (.getfield 18, 3) := by decide +kernel
theorem dX10_wakingAt_16 : decode cX10_wakingAt 16 = .ok (.iload_n 1, 1) := by decide +kernel
theorem dX10_wakingAt_17 : decode cX10_wakingAt 17 = .ok (.iaload, 1) := by decide +kernel
theorem dX10_wakingAt_18 : decode cX10_wakingAt 18 = .ok (.goto 4, 3) := by decide +kernel
theorem dX10_wakingAt_21 : decode cX10_wakingAt 21 = .ok (.iconst (-1), 1) := by decide +kernel
theorem dX10_wakingAt_22 : decode cX10_wakingAt 22 = .ok (.ireturn, 1) := by decide +kernel
theorem dX10_keepFor_0 : decode cX10_keepFor 0 = .ok (.aload_n 0, 1) := by decide +kernel
theorem dX10_keepFor_1 : decode cX10_keepFor 1 = .ok (.iconst 0, 1) := by decide +kernel
theorem dX10_keepFor_2 : decode cX10_keepFor 2 = .ok (.iload_n 1, 1) := by decide +kernel
theorem dX10_keepFor_3 : decode cX10_keepFor 3 = .ok (.bipush 60, 2) := by decide +kernel
theorem dX10_keepFor_5 : decode cX10_keepFor 5 = .ok (.invokestatic 29, 3) := by decide +kernel
theorem dX10_keepFor_8 : decode cX10_keepFor 8 = .ok (.invokestatic 35, 3) := by decide +kernel
theorem dX10_keepFor_11 : decode cX10_keepFor 11 = .ok (.putfield 38, 3) := by decide +kernel
theorem dX10_keepFor_14 : decode cX10_keepFor 14 = .ok (.aload_n 0, 1) := by decide +kernel
theorem dX10_keepFor_15 : decode cX10_keepFor 15 = .ok (.getfield 38, 3) := by decide +kernel
theorem dX10_keepFor_18 : decode cX10_keepFor 18 = .ok (.iconst 1, 1) := by decide +kernel
theorem dX10_keepFor_19 : decode cX10_keepFor 19 = .ok (.isub, 1) := by decide +kernel
theorem dX10_keepFor_20 : decode cX10_keepFor 20 = .ok (.istore_n 2, 1) := by decide +kernel
theorem dX10_keepFor_21 : decode cX10_keepFor 21 = .ok (.iload_n 2, 1) := by decide +kernel
theorem dX10_keepFor_22 : decode cX10_keepFor 22 = .ok (.ifCond .lt 14, 3) := by decide +kernel
theorem dX10_keepFor_25 : decode cX10_keepFor 25 = .ok (.aload_n 0, 1) := by decide +kernel
theorem dX10_keepFor_26 : decode cX10_keepFor 26 = .ok (.iload_n 2, 1) := by decide +kernel
theorem dX10_keepFor_27 : decode cX10_keepFor 27 = .ok (.invokevirtual 41, 3) := by decide +kernel
theorem dX10_keepFor_30 : decode cX10_keepFor 30 = .ok (.iinc 2 (-1), 3) := by decide +kernel
theorem dX10_keepFor_33 : decode cX10_keepFor 33 = .ok (.goto (-12), 3) := by decide +kernel
theorem dX10_keepFor_36 : decode cX10_keepFor 36 = .ok (.aload_n 0, 1) := by decide +kernel
theorem dX10_keepFor_37 : decode cX10_keepFor 37 = .ok (.getfield 21, 3) := by decide +kernel
theorem dX10_keepFor_40 : decode cX10_keepFor 40 = .ok (.invokevirtual 45, 3) := by decide +kernel
theorem dX10_keepFor_43 : decode cX10_keepFor 43 = .ok (.aload_n 0, 1) := by decide +kernel
theorem dX10_keepFor_44 : decode cX10_keepFor 44 = .ok (.getfield 21, 3) := by decide +kernel
theorem dX10_keepFor_47 : decode cX10_keepFor 47 = .ok (.invokevirtual 51, 3) := by decide +kernel
theorem dX10_keepFor_50 : decode cX10_keepFor 50 = .ok (.isub, 1) := by decide +kernel
theorem dX10_keepFor_51 : decode cX10_keepFor 51 = .ok (.istore_n 2, 1) := by decide +kernel
theorem dX10_keepFor_52 : decode cX10_keepFor 52 = .ok (.aload_n 0, 1) := by decide +kernel
theorem dX10_keepFor_53 : decode cX10_keepFor 53 = .ok (.iload_n 2, 1) := by decide +kernel
theorem dX10_keepFor_54 : decode cX10_keepFor 54 = .ok (.aload_n 0, 1) := by decide +kernel
theorem dX10_keepFor_55 : decode cX10_keepFor 55 = .ok (.getfield 21, 3) := by decide +kernel
theorem dX10_keepFor_58 : decode cX10_keepFor 58 = .ok (.invokevirtual 54, 3) := by decide +kernel
theorem dX10_keepFor_61 : decode cX10_keepFor 61 = .ok (.invokevirtual 57, 3) := by decide +kernel
theorem dX10_keepFor_64 : decode cX10_keepFor 64 = .ok (.sipush 1000, 3) := by decide +kernel
theorem dX10_keepFor_67 : decode cX10_keepFor 67 = .ok (.if_icmp .lt 5, 3) := by decide +kernel
theorem dX10_keepFor_70 : decode cX10_keepFor 70 = .ok (.iconst (-1), 1) := by decide +kernel
theorem dX10_keepFor_71 : decode cX10_keepFor 71 = .ok (.ireturn, 1) := by decide +kernel
theorem dX10_keepFor_72 : decode cX10_keepFor 72 = .ok (.aload_n 0, 1) := by decide +kernel
theorem dX10_keepFor_73 : decode cX10_keepFor 73 = .ok (.iload_n 2, 1) := by decide +kernel
theorem dX10_keepFor_74 : decode cX10_keepFor 74 = .ok (.aload_n 0, 1) := by decide +kernel
theorem dX10_keepFor_75 : decode cX10_keepFor 75 = .ok (.getfield 21, 3) := by decide +kernel
theorem dX10_keepFor_78 : decode cX10_keepFor 78 = .ok (.invokevirtual 54, 3) := by decide +kernel
theorem dX10_keepFor_81 : decode cX10_keepFor 81 = .ok (.invokevirtual 60, 3) := by decide +kernel
theorem dX10_keepFor_84 : decode cX10_keepFor 84 = .ok (.aload_n 0, 1) := by decide +kernel
theorem dX10_keepFor_85 : decode cX10_keepFor 85 = .ok (.getfield 25, 3) := by decide +kernel
theorem dX10_keepFor_88 : decode cX10_keepFor 88 = .ok (.ireturn, 1) := by decide +kernel
theorem dX10_fewestFrom_0 : decode cX10_fewestFrom 0 = .ok (.iload_n 2, 1) := by decide +kernel
theorem dX10_fewestFrom_1 : decode cX10_fewestFrom 1 = .ok (.ifCond .lt 14, 3) := by decide +kernel
theorem dX10_fewestFrom_4 : decode cX10_fewestFrom 4 = .ok (.iload_n 2, 1) := by decide +kernel
theorem dX10_fewestFrom_5 : decode cX10_fewestFrom 5 = .ok (.aload_n 0, 1) := by decide +kernel
theorem dX10_fewestFrom_6 : decode cX10_fewestFrom 6 = .ok (.getfield 21, 3) := by decide +kernel
theorem dX10_fewestFrom_9 : decode cX10_fewestFrom 9 = .ok (.invokevirtual 64, 3) := by decide +kernel
theorem dX10_fewestFrom_12 : decode cX10_fewestFrom 12 = .ok (.if_icmp .lt 7, 3) := by decide +kernel
theorem dX10_fewestFrom_15 : decode cX10_fewestFrom 15 = .ok (.sipush 1000, 3) := by decide +kernel
theorem dX10_fewestFrom_18 : decode cX10_fewestFrom 18 = .ok (.ireturn, 1) := by decide +kernel
theorem dX10_fewestFrom_19 : decode cX10_fewestFrom 19 = .ok (.iload_n 1, 1) := by decide +kernel
theorem dX10_fewestFrom_20 : decode cX10_fewestFrom 20 = .ok (.aload_n 0, 1) := by decide +kernel
theorem dX10_fewestFrom_21 : decode cX10_fewestFrom 21 = .ok (.getfield 38, 3) := by decide +kernel
theorem dX10_fewestFrom_24 : decode cX10_fewestFrom 24 = .ok (.if_icmp .ge 17, 3) := by decide +kernel
theorem dX10_fewestFrom_27 : decode cX10_fewestFrom 27 = .ok (.aload_n 0, 1) := by decide +kernel
theorem dX10_fewestFrom_28 : decode cX10_fewestFrom 28 = .ok (.getfield 9, 3) := by decide +kernel
theorem dX10_fewestFrom_31 : decode cX10_fewestFrom 31 = .ok (.iload_n 1, 1) := by decide +kernel
theorem dX10_fewestFrom_32 : decode cX10_fewestFrom 32 = .ok (.bipush 9, 2) := by decide +kernel
theorem dX10_fewestFrom_34 : decode cX10_fewestFrom 34 = .ok (.imul, 1) := by decide +kernel
theorem dX10_fewestFrom_35 : decode cX10_fewestFrom 35 = .ok (.iload_n 2, 1) := by decide +kernel
theorem dX10_fewestFrom_36 : decode cX10_fewestFrom 36 = .ok (.iadd, 1) := by decide +kernel
theorem dX10_fewestFrom_37 : decode cX10_fewestFrom 37 = .ok (.iaload, 1) := by decide +kernel
theorem dX10_fewestFrom_38 : decode cX10_fewestFrom 38 = .ok (.goto 4, 3) := by decide +kernel
theorem dX10_fewestFrom_41 : decode cX10_fewestFrom 41 = .ok (.iconst 0, 1) := by decide +kernel
theorem dX10_fewestFrom_42 : decode cX10_fewestFrom 42 = .ok (.ireturn, 1) := by decide +kernel
theorem dX10_weighHour_0 : decode cX10_weighHour 0 = .ok (.aload_n 0, 1) := by decide +kernel
theorem dX10_weighHour_1 : decode cX10_weighHour 1 = .ok (.getfield 21, 3) := by decide +kernel
theorem dX10_weighHour_4 : decode cX10_weighHour 4 = .ok (.invokevirtual 51, 3) := by decide +kernel
theorem dX10_weighHour_7 : decode cX10_weighHour 7 = .ok (.iload_n 1, 1) := by decide +kernel
theorem dX10_weighHour_8 : decode cX10_weighHour 8 = .ok (.iadd, 1) := by decide +kernel
theorem dX10_weighHour_9 : decode cX10_weighHour 9 = .ok (.istore_n 2, 1) := by decide +kernel
theorem dX10_weighHour_10 : decode cX10_weighHour 10 = .ok (.aload_n 0, 1) := by decide +kernel
theorem dX10_weighHour_11 : decode cX10_weighHour 11 = .ok (.getfield 15, 3) := by decide +kernel
theorem dX10_weighHour_14 : decode cX10_weighHour 14 = .ok (.iload_n 1, 1) := by decide +kernel
theorem dX10_weighHour_15 : decode cX10_weighHour 15 = .ok (.aload_n 0, 1) := by decide +kernel
theorem dX10_weighHour_16 : decode cX10_weighHour 16 = .ok (.getfield 21, 3) := by decide +kernel
theorem dX10_weighHour_19 : decode cX10_weighHour 19 = .ok (.iload_n 2, 1) := by decide +kernel
theorem dX10_weighHour_20 : decode cX10_weighHour 20 = .ok (.iconst 1, 1) := by decide +kernel
theorem dX10_weighHour_21 : decode cX10_weighHour 21 = .ok (.iadd, 1) := by decide +kernel
theorem dX10_weighHour_22 : decode cX10_weighHour 22 = .ok (.aload_n 0, 1) := by decide +kernel
theorem dX10_weighHour_23 : decode cX10_weighHour 23 = .ok (.getfield 21, 3) := by decide +kernel
theorem dX10_weighHour_26 : decode cX10_weighHour 26 = .ok (.invokevirtual 67, 3) := by decide +kernel
theorem dX10_weighHour_29 : decode cX10_weighHour 29 = .ok (.invokevirtual 70, 3) := by decide +kernel
theorem dX10_weighHour_32 : decode cX10_weighHour 32 = .ok (.aload_n 0, 1) := by decide +kernel
theorem dX10_weighHour_33 : decode cX10_weighHour 33 = .ok (.getfield 21, 3) := by decide +kernel
theorem dX10_weighHour_36 : decode cX10_weighHour 36 = .ok (.invokevirtual 51, 3) := by decide +kernel
theorem dX10_weighHour_39 : decode cX10_weighHour 39 = .ok (.isub, 1) := by decide +kernel
theorem dX10_weighHour_40 : decode cX10_weighHour 40 = .ok (.iastore, 1) := by decide +kernel
theorem dX10_weighHour_41 : decode cX10_weighHour 41 = .ok (.iconst 0, 1) := by decide +kernel
theorem dX10_weighHour_42 : decode cX10_weighHour 42 = .ok (.istore_n 3, 1) := by decide +kernel
theorem dX10_weighHour_43 : decode cX10_weighHour 43 = .ok (.iload_n 3, 1) := by decide +kernel
theorem dX10_weighHour_44 : decode cX10_weighHour 44 = .ok (.aload_n 0, 1) := by decide +kernel
theorem dX10_weighHour_45 : decode cX10_weighHour 45 = .ok (.getfield 21, 3) := by decide +kernel
theorem dX10_weighHour_48 : decode cX10_weighHour 48 = .ok (.invokevirtual 64, 3) := by decide +kernel
theorem dX10_weighHour_51 : decode cX10_weighHour 51 = .ok (.if_icmp .ge 66, 3) := by decide +kernel
theorem dX10_weighHour_54 : decode cX10_weighHour 54 = .ok (.aload_n 0, 1) := by decide +kernel
theorem dX10_weighHour_55 : decode cX10_weighHour 55 = .ok (.aload_n 0, 1) := by decide +kernel
theorem dX10_weighHour_56 : decode cX10_weighHour 56 = .ok (.getfield 15, 3) := by decide +kernel
theorem dX10_weighHour_59 : decode cX10_weighHour 59 = .ok (.iload_n 1, 1) := by decide +kernel
theorem dX10_weighHour_60 : decode cX10_weighHour 60 = .ok (.iaload, 1) := by decide +kernel
theorem dX10_weighHour_61 : decode cX10_weighHour 61 = .ok (.iconst 0, 1) := by decide +kernel
theorem dX10_weighHour_62 : decode cX10_weighHour 62 = .ok (.invokevirtual 57, 3) := by decide +kernel
theorem dX10_weighHour_65 : decode cX10_weighHour 65 = .ok (.istore 4, 2) := by decide +kernel
theorem dX10_weighHour_67 : decode cX10_weighHour 67 = .ok (.aload_n 0, 1) := by decide +kernel
theorem dX10_weighHour_68 : decode cX10_weighHour 68 = .ok (.getfield 21, 3) := by decide +kernel
theorem dX10_weighHour_71 : decode cX10_weighHour 71 = .ok (.iload_n 2, 1) := by decide +kernel
theorem dX10_weighHour_72 : decode cX10_weighHour 72 = .ok (.invokevirtual 73, 3) := by decide +kernel
theorem dX10_weighHour_75 : decode cX10_weighHour 75 = .ok (.ifCond .ne 23, 3) := by decide +kernel
theorem dX10_weighHour_78 : decode cX10_weighHour 78 = .ok (.aload_n 0, 1) := by decide +kernel
theorem dX10_weighHour_79 : decode cX10_weighHour 79 = .ok (.iload_n 1, 1) := by decide +kernel
theorem dX10_weighHour_80 : decode cX10_weighHour 80 = .ok (.invokevirtual 77, 3) := by decide +kernel
theorem dX10_weighHour_83 : decode cX10_weighHour 83 = .ok (.aload_n 0, 1) := by decide +kernel
theorem dX10_weighHour_84 : decode cX10_weighHour 84 = .ok (.iload_n 1, 1) := by decide +kernel
theorem dX10_weighHour_85 : decode cX10_weighHour 85 = .ok (.iconst 1, 1) := by decide +kernel
theorem dX10_weighHour_86 : decode cX10_weighHour 86 = .ok (.iadd, 1) := by decide +kernel
theorem dX10_weighHour_87 : decode cX10_weighHour 87 = .ok (.iload_n 3, 1) := by decide +kernel
theorem dX10_weighHour_88 : decode cX10_weighHour 88 = .ok (.iconst 1, 1) := by decide +kernel
theorem dX10_weighHour_89 : decode cX10_weighHour 89 = .ok (.iadd, 1) := by decide +kernel
theorem dX10_weighHour_90 : decode cX10_weighHour 90 = .ok (.invokevirtual 57, 3) := by decide +kernel
theorem dX10_weighHour_93 : decode cX10_weighHour 93 = .ok (.invokestatic 29, 3) := by decide +kernel
theorem dX10_weighHour_96 : decode cX10_weighHour 96 = .ok (.istore 4, 2) := by decide +kernel
theorem dX10_weighHour_98 : decode cX10_weighHour 98 = .ok (.aload_n 0, 1) := by decide +kernel
theorem dX10_weighHour_99 : decode cX10_weighHour 99 = .ok (.getfield 9, 3) := by decide +kernel
theorem dX10_weighHour_102 : decode cX10_weighHour 102 = .ok (.iload_n 1, 1) := by decide +kernel
theorem dX10_weighHour_103 : decode cX10_weighHour 103 = .ok (.bipush 9, 2) := by decide +kernel
theorem dX10_weighHour_105 : decode cX10_weighHour 105 = .ok (.imul, 1) := by decide +kernel
theorem dX10_weighHour_106 : decode cX10_weighHour 106 = .ok (.iload_n 3, 1) := by decide +kernel
theorem dX10_weighHour_107 : decode cX10_weighHour 107 = .ok (.iadd, 1) := by decide +kernel
theorem dX10_weighHour_108 : decode cX10_weighHour 108 = .ok (.iload 4, 2) := by decide +kernel
theorem dX10_weighHour_110 : decode cX10_weighHour 110 = .ok (.iastore, 1) := by decide +kernel
theorem dX10_weighHour_111 : decode cX10_weighHour 111 = .ok (.iinc 3 1, 3) := by decide +kernel
theorem dX10_weighHour_114 : decode cX10_weighHour 114 = .ok (.goto (-71), 3) := by decide +kernel
theorem dX10_weighHour_117 : decode cX10_weighHour 117 = .ok (.return_, 1) := by decide +kernel
theorem dX10_costOfWaking_0 : decode cX10_costOfWaking 0 = .ok (.aload_n 0, 1) := by decide +kernel
theorem dX10_costOfWaking_1 : decode cX10_costOfWaking 1 = .ok (.getfield 21, 3) := by decide +kernel
theorem dX10_costOfWaking_4 : decode cX10_costOfWaking 4 = .ok (.aload_n 0, 1) := by decide +kernel
theorem dX10_costOfWaking_5 : decode cX10_costOfWaking 5 = .ok (.getfield 21, 3) := by decide +kernel
theorem dX10_costOfWaking_8 : decode cX10_costOfWaking 8 = .ok (.invokevirtual 51, 3) := by decide +kernel
theorem dX10_costOfWaking_11 : decode cX10_costOfWaking 11 = .ok (.iload_n 1, 1) := by decide +kernel
theorem dX10_costOfWaking_12 : decode cX10_costOfWaking 12 = .ok (.iadd, 1) := by decide +kernel
theorem dX10_costOfWaking_13 : decode cX10_costOfWaking 13 = .ok (.bipush 12, 2) := by decide +kernel
theorem dX10_costOfWaking_15 : decode cX10_costOfWaking 15 = .ok (.invokevirtual 81, 3) := by decide +kernel
theorem dX10_costOfWaking_18 : decode cX10_costOfWaking 18 = .ok (.istore_n 2, 1) := by decide +kernel
theorem dX10_costOfWaking_19 : decode cX10_costOfWaking 19 = .ok (.iload_n 2, 1) := by decide +kernel
theorem dX10_costOfWaking_20 : decode cX10_costOfWaking 20 = .ok (.ifCond .eq 19, 3) := by decide +kernel
theorem dX10_costOfWaking_23 : decode cX10_costOfWaking 23 = .ok (.iconst 1, 1) := by decide +kernel
theorem dX10_costOfWaking_24 : decode cX10_costOfWaking 24 = .ok (.aload_n 0, 1) := by decide +kernel
theorem dX10_costOfWaking_25 : decode cX10_costOfWaking 25 = .ok (.aload_n 0, 1) := by decide +kernel
theorem dX10_costOfWaking_26 : decode cX10_costOfWaking 26 = .ok (.getfield 15, 3) := by decide +kernel
theorem dX10_costOfWaking_29 : decode cX10_costOfWaking 29 = .ok (.iload_n 1, 1) := by decide +kernel
theorem dX10_costOfWaking_30 : decode cX10_costOfWaking 30 = .ok (.iaload, 1) := by decide +kernel
theorem dX10_costOfWaking_31 : decode cX10_costOfWaking 31 = .ok (.iconst 0, 1) := by decide +kernel
theorem dX10_costOfWaking_32 : decode cX10_costOfWaking 32 = .ok (.invokevirtual 57, 3) := by decide +kernel
theorem dX10_costOfWaking_35 : decode cX10_costOfWaking 35 = .ok (.iadd, 1) := by decide +kernel
theorem dX10_costOfWaking_36 : decode cX10_costOfWaking 36 = .ok (.goto 6, 3) := by decide +kernel
theorem dX10_costOfWaking_39 : decode cX10_costOfWaking 39 = .ok (.sipush 1000, 3) := by decide +kernel
theorem dX10_costOfWaking_42 : decode cX10_costOfWaking 42 = .ok (.ireturn, 1) := by decide +kernel
theorem dX10_noteWakings_0 : decode cX10_noteWakings 0 = .ok (.aload_n 0, 1) := by decide +kernel
theorem dX10_noteWakings_1 : decode cX10_noteWakings 1 = .ok (.iconst 0, 1) := by decide +kernel
theorem dX10_noteWakings_2 : decode cX10_noteWakings 2 = .ok (.putfield 25, 3) := by decide +kernel
theorem dX10_noteWakings_5 : decode cX10_noteWakings 5 = .ok (.iload_n 1, 1) := by decide +kernel
theorem dX10_noteWakings_6 : decode cX10_noteWakings 6 = .ok (.istore_n 3, 1) := by decide +kernel
theorem dX10_noteWakings_7 : decode cX10_noteWakings 7 = .ok (.iload_n 2, 1) := by decide +kernel
theorem dX10_noteWakings_8 : decode cX10_noteWakings 8 = .ok (.istore 4, 2) := by decide +kernel
theorem dX10_noteWakings_10 : decode cX10_noteWakings 10 = .ok (.iload_n 3, 1) := by decide +kernel
theorem dX10_noteWakings_11 : decode cX10_noteWakings 11 = .ok (.aload_n 0, 1) := by decide +kernel
theorem dX10_noteWakings_12 : decode cX10_noteWakings 12 = .ok (.getfield 38, 3) := by decide +kernel
theorem dX10_noteWakings_15 : decode cX10_noteWakings 15 = .ok (.if_icmp .ge 137, 3) := by decide +kernel
theorem dX10_noteWakings_18 : decode cX10_noteWakings 18 = .ok (.aload_n 0, 1) := by decide +kernel
theorem dX10_noteWakings_19 : decode cX10_noteWakings 19 = .ok (.getfield 21, 3) := by decide +kernel
theorem dX10_noteWakings_22 : decode cX10_noteWakings 22 = .ok (.invokevirtual 51, 3) := by decide +kernel
theorem dX10_noteWakings_25 : decode cX10_noteWakings 25 = .ok (.iload_n 3, 1) := by decide +kernel
theorem dX10_noteWakings_26 : decode cX10_noteWakings 26 = .ok (.iadd, 1) := by decide +kernel
theorem dX10_noteWakings_27 : decode cX10_noteWakings 27 = .ok (.istore 5, 2) := by decide +kernel
theorem dX10_noteWakings_29 : decode cX10_noteWakings 29 = .ok (.aload_n 0, 1) := by decide +kernel
theorem dX10_noteWakings_30 : decode cX10_noteWakings 30 = .ok (.getfield 21, 3) := by decide +kernel
theorem dX10_noteWakings_33 : decode cX10_noteWakings 33 = .ok (.iload 5, 2) := by decide +kernel
theorem dX10_noteWakings_35 : decode cX10_noteWakings 35 = .ok (.invokevirtual 73, 3) := by decide +kernel
theorem dX10_noteWakings_38 : decode cX10_noteWakings 38 = .ok (.istore 6, 2) := by decide +kernel
theorem dX10_noteWakings_40 : decode cX10_noteWakings 40 = .ok (.iload 6, 2) := by decide +kernel
theorem dX10_noteWakings_42 : decode cX10_noteWakings 42 = .ok (.ifCond .ne 68, 3) := by decide +kernel
theorem dX10_noteWakings_45 : decode cX10_noteWakings 45 = .ok (.aload_n 0, 1) := by decide +kernel
theorem dX10_noteWakings_46 : decode cX10_noteWakings 46 = .ok (.iload_n 3, 1) := by decide +kernel
theorem dX10_noteWakings_47 : decode cX10_noteWakings 47 = .ok (.iconst 1, 1) := by decide +kernel
theorem dX10_noteWakings_48 : decode cX10_noteWakings 48 = .ok (.iadd, 1) := by decide +kernel
theorem dX10_noteWakings_49 : decode cX10_noteWakings 49 = .ok (.iload 4, 2) := by decide +kernel
theorem dX10_noteWakings_51 : decode cX10_noteWakings 51 = .ok (.iconst 1, 1) := by decide +kernel
theorem dX10_noteWakings_52 : decode cX10_noteWakings 52 = .ok (.iadd, 1) := by decide +kernel
theorem dX10_noteWakings_53 : decode cX10_noteWakings 53 = .ok (.invokevirtual 57, 3) := by decide +kernel
theorem dX10_noteWakings_56 : decode cX10_noteWakings 56 = .ok (.aload_n 0, 1) := by decide +kernel
theorem dX10_noteWakings_57 : decode cX10_noteWakings 57 = .ok (.iload_n 3, 1) := by decide +kernel
theorem dX10_noteWakings_58 : decode cX10_noteWakings 58 = .ok (.invokevirtual 77, 3) := by decide +kernel
theorem dX10_noteWakings_61 : decode cX10_noteWakings 61 = .ok (.if_icmp .le 49, 3) := by decide +kernel
theorem dX10_noteWakings_64 : decode cX10_noteWakings 64 = .ok (.aload_n 0, 1) := by decide +kernel
theorem dX10_noteWakings_65 : decode cX10_noteWakings 65 = .ok (.getfield 18, 3) := by decide +kernel
theorem dX10_noteWakings_68 : decode cX10_noteWakings 68 = .ok (.aload_n 0, 1) := by decide +kernel
theorem dX10_noteWakings_69 : decode cX10_noteWakings 69 = .ok (.getfield 25, 3) := by decide +kernel
theorem dX10_noteWakings_72 : decode cX10_noteWakings 72 = .ok (.bipush 10, 2) := by decide +kernel
theorem dX10_noteWakings_74 : decode cX10_noteWakings 74 = .ok (.iload 5, 2) := by decide +kernel
theorem dX10_noteWakings_76 : decode cX10_noteWakings 76 = .ok (.imul, 1) := by decide +kernel
theorem dX10_noteWakings_77 : decode cX10_noteWakings 77 = .ok (.aload_n 0, 1) := by decide +kernel
theorem dX10_noteWakings_78 : decode cX10_noteWakings 78 = .ok (.getfield 21, 3) := by decide +kernel
theorem dX10_noteWakings_81 : decode cX10_noteWakings 81 = .ok (.iload 5, 2) := by decide +kernel
theorem dX10_noteWakings_83 : decode cX10_noteWakings 83 = .ok (.iconst 4, 1) := by decide +kernel
theorem dX10_noteWakings_84 : decode cX10_noteWakings 84 = .ok (.invokevirtual 81, 3) := by decide +kernel
theorem dX10_noteWakings_87 : decode cX10_noteWakings 87 = .ok (.ifCond .eq 7, 3) := by decide +kernel
theorem dX10_noteWakings_90 : decode cX10_noteWakings 90 = .ok (.iconst 0, 1) := by decide +kernel
theorem dX10_noteWakings_91 : decode cX10_noteWakings 91 = .ok (.goto 4, 3) := by decide +kernel
theorem dX10_noteWakings_94 : decode cX10_noteWakings 94 = .ok (.iconst 1, 1) := by decide +kernel
theorem dX10_noteWakings_95 : decode cX10_noteWakings 95 = .ok (.iadd, 1) := by decide +kernel
theorem dX10_noteWakings_96 : decode cX10_noteWakings 96 = .ok (.iastore, 1) := by decide +kernel
theorem dX10_noteWakings_97 : decode cX10_noteWakings 97 = .ok (.aload_n 0, 1) := by decide +kernel
theorem dX10_noteWakings_98 : decode cX10_noteWakings 98 = .ok (.dup, 1) := by decide +kernel
theorem dX10_noteWakings_99 : decode cX10_noteWakings 99 = .ok (.getfield 25, 3) := by decide +kernel
theorem dX10_noteWakings_102 : decode cX10_noteWakings 102 = .ok (.iconst 1, 1) := by decide +kernel
theorem dX10_noteWakings_103 : decode cX10_noteWakings 103 = .ok (.iadd, 1) := by decide +kernel
theorem dX10_noteWakings_104 : decode cX10_noteWakings 104 = .ok (.putfield 25, 3) := by decide +kernel
theorem dX10_noteWakings_107 : decode cX10_noteWakings 107 = .ok (.iconst 1, 1) := by decide +kernel
theorem dX10_noteWakings_108 : decode cX10_noteWakings 108 = .ok (.istore 6, 2) := by decide +kernel
theorem dX10_noteWakings_110 : decode cX10_noteWakings 110 = .ok (.iload 6, 2) := by decide +kernel
theorem dX10_noteWakings_112 : decode cX10_noteWakings 112 = .ok (.ifCond .eq 7, 3) := by decide +kernel
theorem dX10_noteWakings_115 : decode cX10_noteWakings 115 = .ok (.iconst 0, 1) := by decide +kernel
theorem dX10_noteWakings_116 : decode cX10_noteWakings 116 = .ok (.goto 7, 3) := by decide +kernel
theorem dX10_noteWakings_119 : decode cX10_noteWakings 119 = .ok (.iload 4, 2) := by decide +kernel
theorem dX10_noteWakings_121 : decode cX10_noteWakings 121 = .ok (.iconst 1, 1) := by decide +kernel
theorem dX10_noteWakings_122 : decode cX10_noteWakings 122 = .ok (.iadd, 1) := by decide +kernel
theorem dX10_noteWakings_123 : decode cX10_noteWakings 123 = .ok (.istore 4, 2) := by decide +kernel
theorem dX10_noteWakings_125 : decode cX10_noteWakings 125 = .ok (.iload 6, 2) := by decide +kernel
theorem dX10_noteWakings_127 : decode cX10_noteWakings 127 = .ok (.ifCond .eq 18, 3) := by decide +kernel
theorem dX10_noteWakings_130 : decode cX10_noteWakings 130 = .ok (.iload_n 3, 1) := by decide +kernel
theorem dX10_noteWakings_131 : decode cX10_noteWakings 131 = .ok (.iconst 1, 1) := by decide +kernel
theorem dX10_noteWakings_132 : decode cX10_noteWakings 132 = .ok (.iadd, 1) := by decide +kernel
theorem dX10_noteWakings_133 : decode cX10_noteWakings 133 = .ok (.aload_n 0, 1) := by decide +kernel
theorem dX10_noteWakings_134 : decode cX10_noteWakings 134 = .ok (.getfield 15, 3) := by decide +kernel
theorem dX10_noteWakings_137 : decode cX10_noteWakings 137 = .ok (.iload_n 3, 1) := by decide +kernel
theorem dX10_noteWakings_138 : decode cX10_noteWakings 138 = .ok (.iaload, 1) := by decide +kernel
theorem dX10_noteWakings_139 : decode cX10_noteWakings 139 = .ok (.invokestatic 35, 3) := by decide +kernel
theorem dX10_noteWakings_142 : decode cX10_noteWakings 142 = .ok (.goto 6, 3) := by decide +kernel
theorem dX10_noteWakings_145 : decode cX10_noteWakings 145 = .ok (.iload_n 3, 1) := by decide +kernel
theorem dX10_noteWakings_146 : decode cX10_noteWakings 146 = .ok (.iconst 1, 1) := by decide +kernel
theorem dX10_noteWakings_147 : decode cX10_noteWakings 147 = .ok (.iadd, 1) := by decide +kernel
theorem dX10_noteWakings_148 : decode cX10_noteWakings 148 = .ok (.istore_n 3, 1) := by decide +kernel
theorem dX10_noteWakings_149 : decode cX10_noteWakings 149 = .ok (.goto (-139), 3) := by decide +kernel
theorem dX10_noteWakings_152 : decode cX10_noteWakings 152 = .ok (.return_, 1) := by decide +kernel
theorem dX11_of_0 : decode cX11_of 0 = .ok (.iconst 0, 1) := by decide +kernel
theorem dX11_of_1 : decode cX11_of 1 = .ok (.istore_n 2, 1) := by decide +kernel
theorem dX11_of_2 : decode cX11_of 2 = .ok (.iload_n 2, 1) := by decide +kernel
theorem dX11_of_3 : decode cX11_of 3 = .ok (.getstatic 130, 3) := by decide +kernel
theorem dX11_of_6 : decode cX11_of 6 = .ok (.arraylength, 1) := by decide +kernel
theorem dX11_of_7 : decode cX11_of 7 = .ok (.if_icmp .ge 28, 3) := by decide +kernel
theorem dX11_of_10 : decode cX11_of 10 = .ok (.getstatic 130, 3) := by decide +kernel
theorem dX11_of_13 : decode cX11_of 13 = .ok (.iload_n 2, 1) := by decide +kernel
theorem dX11_of_14 : decode cX11_of 14 = .ok (.aaload, 1) := by decide +kernel
theorem dX11_of_15 : decode cX11_of 15 = .ok (.getfield 126, 3) := by decide +kernel
theorem dX11_of_18 : decode cX11_of 18 = .ok (.lload_n 0, 1) := by decide +kernel
theorem dX11_of_19 : decode cX11_of 19 = .ok (.lcmp, 1) := by decide +kernel
theorem dX11_of_20 : decode cX11_of 20 = .ok (.ifCond .ne 9, 3) := by decide +kernel
theorem dX11_of_23 : decode cX11_of 23 = .ok (.getstatic 130, 3) := by decide +kernel
theorem dX11_of_26 : decode cX11_of 26 = .ok (.iload_n 2, 1) := by decide +kernel
theorem dX11_of_27 : decode cX11_of 27 = .ok (.aaload, 1) := by decide +kernel
theorem dX11_of_28 : decode cX11_of 28 = .ok (.areturn, 1) := by decide +kernel
theorem dX11_of_29 : decode cX11_of 29 = .ok (.iinc 2 1, 3) := by decide +kernel
theorem dX11_of_32 : decode cX11_of 32 = .ok (.goto (-30), 3) := by decide +kernel
theorem dX11_of_35 : decode cX11_of 35 = .ok (.getstatic 7, 3) := by decide +kernel
theorem dX11_of_38 : decode cX11_of 38 = .ok (.areturn, 1) := by decide +kernel
theorem dX12_init_0 : decode cX12_init 0 = .ok (.aload_n 0, 1) := by decide +kernel
theorem dX12_init_1 : decode cX12_init 1 = .ok (.invokespecial 1, 3) := by decide +kernel
theorem dX12_init_4 : decode cX12_init 4 = .ok (.aload_n 0, 1) := by decide +kernel
theorem dX12_init_5 : decode cX12_init 5 = .ok (.new 7, 3) := by decide +kernel
theorem dX12_init_8 : decode cX12_init 8 = .ok (.dup, 1) := by decide +kernel
theorem dX12_init_9 : decode cX12_init 9 = .ok (.invokespecial 9, 3) := by decide +kernel
theorem dX12_init_12 : decode cX12_init 12 = .ok (.putfield 10, 3) := by decide +kernel
theorem dX12_init_15 : decode cX12_init 15 = .ok (.aload_n 0, 1) := by decide +kernel
theorem dX12_init_16 : decode cX12_init 16 = .ok (.new 16, 3) := by decide +kernel
theorem dX12_init_19 : decode cX12_init 19 = .ok (.dup, 1) := by decide +kernel
theorem dX12_init_20 : decode cX12_init 20 = .ok (.invokespecial 18, 3) := by decide +kernel
theorem dX12_init_23 : decode cX12_init 23 = .ok (.putfield 19, 3) := by decide +kernel
theorem dX12_init_26 : decode cX12_init 26 = .ok (.aload_n 0, 1) := by decide +kernel
theorem dX12_init_27 : decode cX12_init 27 = .ok (.new 16, 3) := by decide +kernel
theorem dX12_init_30 : decode cX12_init 30 = .ok (.dup, 1) := by decide +kernel
theorem dX12_init_31 : decode cX12_init 31 = .ok (.invokespecial 18, 3) := by decide +kernel
theorem dX12_init_34 : decode cX12_init 34 = .ok (.putfield 23, 3) := by decide +kernel
theorem dX12_init_37 : decode cX12_init 37 = .ok (.aload_n 0, 1) := by decide +kernel
theorem dX12_init_38 : decode cX12_init 38 = .ok (.new 26, 3) := by decide +kernel
theorem dX12_init_41 : decode cX12_init 41 = .ok (.dup, 1) := by decide +kernel
theorem dX12_init_42 : decode cX12_init 42 = .ok (.aload_n 0, 1) := by decide +kernel
theorem dX12_init_43 : decode cX12_init 43 = .ok (.getfield 10, 3) := by decide +kernel
theorem dX12_init_46 : decode cX12_init 46 = .ok (.aload_n 0, 1) := by decide +kernel
theorem dX12_init_47 : decode cX12_init 47 = .ok (.getfield 23, 3) := by decide +kernel
theorem dX12_init_50 : decode cX12_init 50 = .ok (.invokespecial 28, 3) := by decide +kernel
theorem dX12_init_53 : decode cX12_init 53 = .ok (.putfield 31, 3) := by decide +kernel
theorem dX12_init_56 : decode cX12_init 56 = .ok (.aload_n 0, 1) := by decide +kernel
theorem dX12_init_57 : decode cX12_init 57 = .ok (.new 35, 3) := by decide +kernel
theorem dX12_init_60 : decode cX12_init 60 = .ok (.dup, 1) := by decide +kernel
theorem dX12_init_61 : decode cX12_init 61 = .ok (.aload_n 0, 1) := by decide +kernel
theorem dX12_init_62 : decode cX12_init 62 = .ok (.getfield 19, 3) := by decide +kernel
theorem dX12_init_65 : decode cX12_init 65 = .ok (.invokespecial 37, 3) := by decide +kernel
theorem dX12_init_68 : decode cX12_init 68 = .ok (.putfield 40, 3) := by decide +kernel
theorem dX12_init_71 : decode cX12_init 71 = .ok (.aload_n 0, 1) := by decide +kernel
theorem dX12_init_72 : decode cX12_init 72 = .ok (.new 35, 3) := by decide +kernel
theorem dX12_init_75 : decode cX12_init 75 = .ok (.dup, 1) := by decide +kernel
theorem dX12_init_76 : decode cX12_init 76 = .ok (.aload_n 0, 1) := by decide +kernel
theorem dX12_init_77 : decode cX12_init 77 = .ok (.getfield 19, 3) := by decide +kernel
theorem dX12_init_80 : decode cX12_init 80 = .ok (.invokespecial 37, 3) := by decide +kernel
theorem dX12_init_83 : decode cX12_init 83 = .ok (.putfield 44, 3) := by decide +kernel
theorem dX12_init_86 : decode cX12_init 86 = .ok (.aload_n 0, 1) := by decide +kernel
theorem dX12_init_87 : decode cX12_init 87 = .ok (.new 47, 3) := by decide +kernel
theorem dX12_init_90 : decode cX12_init 90 = .ok (.dup, 1) := by decide +kernel
theorem dX12_init_91 : decode cX12_init 91 = .ok (.aload_n 0, 1) := by decide +kernel
theorem dX12_init_92 : decode cX12_init 92 = .ok (.getfield 19, 3) := by decide +kernel
theorem dX12_init_95 : decode cX12_init 95 = .ok (.invokespecial 49, 3) := by decide +kernel
theorem dX12_init_98 : decode cX12_init 98 = .ok (.putfield 50, 3) := by decide +kernel
theorem dX12_init_101 : decode cX12_init 101 = .ok (.aload_n 0, 1) := by decide +kernel
theorem dX12_init_102 : decode cX12_init 102 = .ok (.new 54, 3) := by decide +kernel
theorem dX12_init_105 : decode cX12_init 105 = .ok (.dup, 1) := by decide +kernel
theorem dX12_init_106 : decode cX12_init 106 = .ok (.aload_n 0, 1) := by decide +kernel
theorem dX12_init_107 : decode cX12_init 107 = .ok (.getfield 19, 3) := by decide +kernel
theorem dX12_init_110 : decode cX12_init 110 = .ok (.aload_n 0, 1) := by decide +kernel
theorem dX12_init_111 : decode cX12_init 111 = .ok (.getfield 40, 3) := by decide +kernel
theorem dX12_init_114 : decode cX12_init 114 = .ok (.invokespecial 56, 3) := by decide +kernel
theorem dX12_init_117 : decode cX12_init 117 = .ok (.putfield 59, 3) := by decide +kernel
theorem dX12_init_120 : decode cX12_init 120 = .ok (.aload_n 0, 1) := by decide +kernel
theorem dX12_init_121 : decode cX12_init 121 = .ok (.new 63, 3) := by decide +kernel
theorem dX12_init_124 : decode cX12_init 124 = .ok (.dup, 1) := by decide +kernel
theorem dX12_init_125 : decode cX12_init 125 = .ok (.aload_n 0, 1) := by decide +kernel
theorem dX12_init_126 : decode cX12_init 126 = .ok (.getfield 59, 3) := by decide +kernel
theorem dX12_init_129 : decode cX12_init 129 = .ok (.invokespecial 65, 3) := by decide +kernel
theorem dX12_init_132 : decode cX12_init 132 = .ok (.putfield 68, 3) := by decide +kernel
theorem dX12_init_135 : decode cX12_init 135 = .ok (.aload_n 0, 1) := by decide +kernel
theorem dX12_init_136 : decode cX12_init 136 = .ok (.new 72, 3) := by decide +kernel
theorem dX12_init_139 : decode cX12_init 139 = .ok (.dup, 1) := by decide +kernel
theorem dX12_init_140 : decode cX12_init 140 = .ok (.aload_n 0, 1) := by decide +kernel
theorem dX12_init_141 : decode cX12_init 141 = .ok (.getfield 10, 3) := by decide +kernel
theorem dX12_init_144 : decode cX12_init 144 = .ok (.aload_n 0, 1) := by decide +kernel
theorem dX12_init_145 : decode cX12_init 145 = .ok (.getfield 19, 3) := by decide +kernel
theorem dX12_init_148 : decode cX12_init 148 = .ok (.invokespecial 74, 3) := by decide +kernel
theorem dX12_init_151 : decode cX12_init 151 = .ok (.putfield 75, 3) := by decide +kernel
theorem dX12_init_154 : decode cX12_init 154 = .ok (.aload_n 0, 1) := by decide +kernel
theorem dX12_init_155 : decode cX12_init 155 = .ok (.new 79, 3) := by decide +kernel
theorem dX12_init_158 : decode cX12_init 158 = .ok (.dup, 1) := by decide +kernel
theorem dX12_init_159 : decode cX12_init 159 = .ok (.invokespecial 81, 3) := by decide +kernel
theorem dX12_init_162 : decode cX12_init 162 = .ok (.putfield 82, 3) := by decide +kernel
theorem dX12_init_165 : decode cX12_init 165 = .ok (.aload_n 0, 1) := by decide +kernel
theorem dX12_init_166 : decode cX12_init 166 = .ok (.new 79, 3) := by decide +kernel
theorem dX12_init_169 : decode cX12_init 169 = .ok (.dup, 1) := by decide +kernel
theorem dX12_init_170 : decode cX12_init 170 = .ok (.invokespecial 81, 3) := by decide +kernel
theorem dX12_init_173 : decode cX12_init 173 = .ok (.putfield 86, 3) := by decide +kernel
theorem dX12_init_176 : decode cX12_init 176 = .ok (.aload_n 0, 1) := by decide +kernel
theorem dX12_init_177 : decode cX12_init 177 = .ok (.iconst 2, 1) := by decide +kernel
theorem dX12_init_178 : decode cX12_init 178 = .ok (.anewarray 16, 3) := by decide +kernel
theorem dX12_init_181 : decode cX12_init 181 = .ok (.putfield 89, 3) := by decide +kernel
theorem dX12_init_184 : decode cX12_init 184 = .ok (.aload_n 0, 1) := by decide +kernel
theorem dX12_init_185 : decode cX12_init 185 = .ok (.iconst 2, 1) := by decide +kernel
theorem dX12_init_186 : decode cX12_init 186 = .ok (.anewarray 35, 3) := by decide +kernel
theorem dX12_init_189 : decode cX12_init 189 = .ok (.putfield 93, 3) := by decide +kernel
theorem dX12_init_192 : decode cX12_init 192 = .ok (.aload_n 0, 1) := by decide +kernel
theorem dX12_init_193 : decode cX12_init 193 = .ok (.iconst 2, 1) := by decide +kernel
theorem dX12_init_194 : decode cX12_init 194 = .ok (.anewarray 79, 3) := by decide +kernel
theorem dX12_init_197 : decode cX12_init 197 = .ok (.putfield 97, 3) := by decide +kernel
theorem dX12_init_200 : decode cX12_init 200 = .ok (.aload_n 0, 1) := by decide +kernel
theorem dX12_init_201 : decode cX12_init 201 = .ok (.iconst 2, 1) := by decide +kernel
theorem dX12_init_202 : decode cX12_init 202 = .ok (.newarray .boolean, 2) := by decide +kernel
theorem dX12_init_204 : decode cX12_init 204 = .ok (.putfield 101, 3) := by decide +kernel
theorem dX12_init_207 : decode cX12_init 207 = .ok (.aload_n 0, 1) := by decide +kernel
theorem dX12_init_208 : decode cX12_init 208 = .ok (.new 105, 3) := by decide +kernel
theorem dX12_init_211 : decode cX12_init 211 = .ok (.dup, 1) := by decide +kernel
theorem dX12_init_212 : decode cX12_init 212 = .ok (.invokespecial 107, 3) := by decide +kernel
theorem dX12_init_215 : decode cX12_init 215 = .ok (.putfield 108, 3) := by decide +kernel
theorem dX12_init_218 : decode cX12_init 218 = .ok (.iconst 0, 1) := by decide +kernel
theorem dX12_init_219 : decode cX12_init 219 = .ok (.istore_n 1, 1) := by decide +kernel
theorem dX12_init_220 : decode cX12_init 220 = .ok (.iload_n 1, 1) := by decide +kernel
theorem dX12_init_221 : decode cX12_init 221 = .ok (.iconst 2, 1) := by decide +kernel
theorem dX12_init_222 : decode cX12_init 222 = .ok (.if_icmp .ge 52, 3) := by decide +kernel
theorem dX12_init_225 : decode cX12_init 225 = .ok (.aload_n 0, 1) := by decide +kernel
theorem dX12_init_226 : decode cX12_init 226 = .ok (.getfield 89, 3) := by decide +kernel
theorem dX12_init_229 : decode cX12_init 229 = .ok (.iload_n 1, 1) := by decide +kernel
theorem dX12_init_230 : decode cX12_init 230 = .ok (.new 16, 3) := by decide +kernel
theorem dX12_init_233 : decode cX12_init 233 = .ok (.dup, 1) := by decide +kernel
theorem dX12_init_234 : decode cX12_init 234 = .ok (.invokespecial 18, 3) := by decide +kernel
theorem dX12_init_237 : decode cX12_init 237 = .ok (.aastore, 1) := by decide +kernel
theorem dX12_init_238 : decode cX12_init 238 = .ok (.aload_n 0, 1) := by decide +kernel
theorem dX12_init_239 : decode cX12_init 239 = .ok (.getfield 93, 3) := by decide +kernel
theorem dX12_init_242 : decode cX12_init 242 = .ok (.iload_n 1, 1) := by decide +kernel
theorem dX12_init_243 : decode cX12_init 243 = .ok (.new 35, 3) := by decide +kernel
theorem dX12_init_246 : decode cX12_init 246 = .ok (.dup, 1) := by decide +kernel
theorem dX12_init_247 : decode cX12_init 247 = .ok (.aload_n 0, 1) := by decide +kernel
theorem dX12_init_248 : decode cX12_init 248 = .ok (.getfield 19, 3) := by decide +kernel
theorem dX12_init_251 : decode cX12_init 251 = .ok (.invokespecial 37, 3) := by decide +kernel
theorem dX12_init_254 : decode cX12_init 254 = .ok (.aastore, 1) := by decide +kernel
theorem dX12_init_255 : decode cX12_init 255 = .ok (.aload_n 0, 1) := by decide +kernel
theorem dX12_init_256 : decode cX12_init 256 = .ok (.getfield 97, 3) := by decide +kernel
theorem dX12_init_259 : decode cX12_init 259 = .ok (.iload_n 1, 1) := by decide +kernel
theorem dX12_init_260 : decode cX12_init 260 = .ok (.new 79, 3) := by decide +kernel
theorem dX12_init_263 : decode cX12_init 263 = .ok (.dup, 1) := by decide +kernel
theorem dX12_init_264 : decode cX12_init 264 = .ok (.invokespecial 81, 3) := by decide +kernel
theorem dX12_init_267 : decode cX12_init 267 = .ok (.aastore, 1) := by decide +kernel
theorem dX12_init_268 : decode cX12_init 268 = .ok (.iinc 1 1, 3) := by decide +kernel
theorem dX12_init_271 : decode cX12_init 271 = .ok (.goto (-51), 3) := by decide +kernel
theorem dX12_init_274 : decode cX12_init 274 = .ok (.return_, 1) := by decide +kernel
theorem dX12_feed_0 : decode cX12_feed 0 = .ok (.aload_n 0, 1) := by decide +kernel
theorem dX12_feed_1 : decode cX12_feed 1 = .ok (.getfield 10, 3) := by decide +kernel
theorem dX12_feed_4 : decode cX12_feed 4 = .ok (.invokevirtual 112, 3) := by decide +kernel
theorem dX12_feed_7 : decode cX12_feed 7 = .ok (.ifCond .ne 5, 3) := by decide +kernel
theorem dX12_feed_10 : decode cX12_feed 10 = .ok (.iconst (-1), 1) := by decide +kernel
theorem dX12_feed_11 : decode cX12_feed 11 = .ok (.ireturn, 1) := by decide +kernel
theorem dX12_feed_12 : decode cX12_feed 12 = .ok (.aload_n 0, 1) := by decide +kernel
theorem dX12_feed_13 : decode cX12_feed 13 = .ok (.getfield 10, 3) := by decide +kernel
theorem dX12_feed_16 : decode cX12_feed 16 = .ok (.iload_n 1, 1) := by decide +kernel
theorem dX12_feed_17 : decode cX12_feed 17 = .ok (.invokevirtual 116, 3) := by decide +kernel
theorem dX12_feed_20 : decode cX12_feed 20 = .ok (.aload_n 0, 1) := by decide +kernel
theorem dX12_feed_21 : decode cX12_feed 21 = .ok (.getfield 10, 3) := by decide +kernel
theorem dX12_feed_24 : decode cX12_feed 24 = .ok (.iload_n 2, 1) := by decide +kernel
theorem dX12_feed_25 : decode cX12_feed 25 = .ok (.invokevirtual 116, 3) := by decide +kernel
theorem dX12_feed_28 : decode cX12_feed 28 = .ok (.aload_n 0, 1) := by decide +kernel
theorem dX12_feed_29 : decode cX12_feed 29 = .ok (.getfield 10, 3) := by decide +kernel
theorem dX12_feed_32 : decode cX12_feed 32 = .ok (.iload_n 3, 1) := by decide +kernel
theorem dX12_feed_33 : decode cX12_feed 33 = .ok (.invokevirtual 116, 3) := by decide +kernel
theorem dX12_feed_36 : decode cX12_feed 36 = .ok (.aload_n 0, 1) := by decide +kernel
theorem dX12_feed_37 : decode cX12_feed 37 = .ok (.getfield 10, 3) := by decide +kernel
theorem dX12_feed_40 : decode cX12_feed 40 = .ok (.iload 4, 2) := by decide +kernel
theorem dX12_feed_42 : decode cX12_feed 42 = .ok (.invokevirtual 116, 3) := by decide +kernel
theorem dX12_feed_45 : decode cX12_feed 45 = .ok (.aload_n 0, 1) := by decide +kernel
theorem dX12_feed_46 : decode cX12_feed 46 = .ok (.getfield 10, 3) := by decide +kernel
theorem dX12_feed_49 : decode cX12_feed 49 = .ok (.iload 5, 2) := by decide +kernel
theorem dX12_feed_51 : decode cX12_feed 51 = .ok (.invokevirtual 116, 3) := by decide +kernel
theorem dX12_feed_54 : decode cX12_feed 54 = .ok (.aload_n 0, 1) := by decide +kernel
theorem dX12_feed_55 : decode cX12_feed 55 = .ok (.getfield 10, 3) := by decide +kernel
theorem dX12_feed_58 : decode cX12_feed 58 = .ok (.getfield 120, 3) := by decide +kernel
theorem dX12_feed_61 : decode cX12_feed 61 = .ok (.ireturn, 1) := by decide +kernel
theorem dX12_end_0 : decode cX12_end 0 = .ok (.iload_n 1, 1) := by decide +kernel
theorem dX12_end_1 : decode cX12_end 1 = .ok (.ifCond .lt 14, 3) := by decide +kernel
theorem dX12_end_4 : decode cX12_end 4 = .ok (.iload_n 1, 1) := by decide +kernel
theorem dX12_end_5 : decode cX12_end 5 = .ok (.aload_n 0, 1) := by decide +kernel
theorem dX12_end_6 : decode cX12_end 6 = .ok (.getfield 10, 3) := by decide +kernel
theorem dX12_end_9 : decode cX12_end 9 = .ok (.getfield 120, 3) := by decide +kernel
theorem dX12_end_12 : decode cX12_end 12 = .ok (.if_icmp .le 5, 3) := by decide +kernel
theorem dX12_end_15 : decode cX12_end 15 = .ok (.iconst 0, 1) := by decide +kernel
theorem dX12_end_16 : decode cX12_end 16 = .ok (.ireturn, 1) := by decide +kernel
theorem dX12_end_17 : decode cX12_end 17 = .ok (.aload_n 0, 1) := by decide +kernel
theorem dX12_end_18 : decode cX12_end 18 = .ok (.getfield 10, 3) := by decide +kernel
theorem dX12_end_21 : decode cX12_end 21 = .ok (.iload_n 1, 1) := by decide +kernel
theorem dX12_end_22 : decode cX12_end 22 = .ok (.putfield 120, 3) := by decide +kernel
theorem dX12_end_25 : decode cX12_end 25 = .ok (.iconst 1, 1) := by decide +kernel
theorem dX12_end_26 : decode cX12_end 26 = .ok (.ireturn, 1) := by decide +kernel
theorem dX12_parish_0 : decode cX12_parish 0 = .ok (.aload_n 0, 1) := by decide +kernel
theorem dX12_parish_1 : decode cX12_parish 1 = .ok (.getfield 31, 3) := by decide +kernel
theorem dX12_parish_4 : decode cX12_parish 4 = .ok (.invokevirtual 124, 3) := by decide +kernel
theorem dX12_parish_7 : decode cX12_parish 7 = .ok (.istore_n 1, 1) := by decide +kernel
theorem dX12_parish_8 : decode cX12_parish 8 = .ok (.aload_n 0, 1) := by decide +kernel
theorem dX12_parish_9 : decode cX12_parish 9 = .ok (.aload_n 0, 1) := by decide +kernel
theorem dX12_parish_10 : decode cX12_parish 10 = .ok (.getfield 10, 3) := by decide +kernel
theorem dX12_parish_13 : decode cX12_parish 13 = .ok (.getfield 128, 3) := by decide +kernel
theorem dX12_parish_16 : decode cX12_parish 16 = .ok (.putfield 131, 3) := by decide +kernel
theorem dX12_parish_19 : decode cX12_parish 19 = .ok (.aload_n 0, 1) := by decide +kernel
theorem dX12_parish_20 : decode cX12_parish 20 = .ok (.getfield 10, 3) := by decide +kernel
theorem dX12_parish_23 : decode cX12_parish 23 = .ok (.iconst 0, 1) := by decide +kernel
theorem dX12_parish_24 : decode cX12_parish 24 = .ok (.putfield 120, 3) := by decide +kernel
theorem dX12_parish_27 : decode cX12_parish 27 = .ok (.iload_n 1, 1) := by decide +kernel
theorem dX12_parish_28 : decode cX12_parish 28 = .ok (.ifCond .lt 35, 3) := by decide +kernel
theorem dX12_parish_31 : decode cX12_parish 31 = .ok (.aload_n 0, 1) := by decide +kernel
theorem dX12_parish_32 : decode cX12_parish 32 = .ok (.getfield 19, 3) := by decide +kernel
theorem dX12_parish_35 : decode cX12_parish 35 = .ok (.aload_n 0, 1) := by decide +kernel
theorem dX12_parish_36 : decode cX12_parish 36 = .ok (.getfield 23, 3) := by decide +kernel
theorem dX12_parish_39 : decode cX12_parish 39 = .ok (.invokevirtual 134, 3) := by decide +kernel
theorem dX12_parish_42 : decode cX12_parish 42 = .ok (.aload_n 0, 1) := by decide +kernel
theorem dX12_parish_43 : decode cX12_parish 43 = .ok (.getfield 40, 3) := by decide +kernel
theorem dX12_parish_46 : decode cX12_parish 46 = .ok (.invokevirtual 137, 3) := by decide +kernel
theorem dX12_parish_49 : decode cX12_parish 49 = .ok (.aload_n 0, 1) := by decide +kernel
theorem dX12_parish_50 : decode cX12_parish 50 = .ok (.getfield 82, 3) := by decide +kernel
theorem dX12_parish_53 : decode cX12_parish 53 = .ok (.invokevirtual 140, 3) := by decide +kernel
theorem dX12_parish_56 : decode cX12_parish 56 = .ok (.aload_n 0, 1) := by decide +kernel
theorem dX12_parish_57 : decode cX12_parish 57 = .ok (.getfield 50, 3) := by decide +kernel
theorem dX12_parish_60 : decode cX12_parish 60 = .ok (.invokevirtual 143, 3) := by decide +kernel
theorem dX12_parish_63 : decode cX12_parish 63 = .ok (.iload_n 1, 1) := by decide +kernel
theorem dX12_parish_64 : decode cX12_parish 64 = .ok (.ireturn, 1) := by decide +kernel
theorem dX12_fault_0 : decode cX12_fault 0 = .ok (.aload_n 0, 1) := by decide +kernel
theorem dX12_fault_1 : decode cX12_fault 1 = .ok (.getfield 131, 3) := by decide +kernel
theorem dX12_fault_4 : decode cX12_fault 4 = .ok (.ireturn, 1) := by decide +kernel
theorem dX12_person_0 : decode cX12_person 0 = .ok (.aload_n 0, 1) := by decide +kernel
theorem dX12_person_1 : decode cX12_person 1 = .ok (.getfield 19, 3) := by decide +kernel
theorem dX12_person_4 : decode cX12_person 4 = .ok (.iload_n 1, 1) := by decide +kernel
theorem dX12_person_5 : decode cX12_person 5 = .ok (.invokevirtual 144, 3) := by decide +kernel
theorem dX12_person_8 : decode cX12_person 8 = .ok (.ifCond .ne 13, 3) := by decide +kernel
theorem dX12_person_11 : decode cX12_person 11 = .ok (.new 148, 3) := by decide +kernel
theorem dX12_person_14 : decode cX12_person 14 = .ok (.dup, 1) := by decide +kernel
theorem dX12_person_15 : decode cX12_person 15 = .ok (.ldc 150, 2) := by decide +kernel
theorem dX12_person_17 : decode cX12_person 17 = .ok (.invokespecial 152, 3) := by decide +kernel
theorem dX12_person_20 : decode cX12_person 20 = .ok (.athrow, 1) := by decide +kernel
theorem dX12_person_21 : decode cX12_person 21 = .ok (.iload_n 2, 1) := by decide +kernel
theorem dX12_person_22 : decode cX12_person 22 = .ok (.tableswitch 100 0 5 #[38, 50, 60, 69, 78, 88], 38) := by decide +kernel
theorem dX12_person_60 : decode cX12_person 60 = .ok (.aload_n 0, 1) := by decide +kernel
theorem dX12_person_61 : decode cX12_person 61 = .ok (.getfield 40, 3) := by decide +kernel
theorem dX12_person_64 : decode cX12_person 64 = .ok (.iload_n 1, 1) := by decide +kernel
theorem dX12_person_65 : decode cX12_person 65 = .ok (.invokevirtual 155, 3) := by decide +kernel
theorem dX12_person_68 : decode cX12_person 68 = .ok (.invokestatic 158, 3) := by decide +kernel
theorem dX12_person_71 : decode cX12_person 71 = .ok (.ireturn, 1) := by decide +kernel
theorem dX12_person_72 : decode cX12_person 72 = .ok (.aload_n 0, 1) := by decide +kernel
theorem dX12_person_73 : decode cX12_person 73 = .ok (.getfield 40, 3) := by decide +kernel
theorem dX12_person_76 : decode cX12_person 76 = .ok (.getfield 162, 3) := by decide +kernel
theorem dX12_person_79 : decode cX12_person 79 = .ok (.iload_n 1, 1) := by decide +kernel
theorem dX12_person_80 : decode cX12_person 80 = .ok (.iaload, 1) := by decide +kernel
theorem dX12_person_81 : decode cX12_person 81 = .ok (.ireturn, 1) := by decide +kernel
theorem dX12_person_82 : decode cX12_person 82 = .ok (.aload_n 0, 1) := by decide +kernel
theorem dX12_person_83 : decode cX12_person 83 = .ok (.getfield 19, 3) := by decide +kernel
theorem dX12_person_86 : decode cX12_person 86 = .ok (.iload_n 1, 1) := by decide +kernel
theorem dX12_person_87 : decode cX12_person 87 = .ok (.invokevirtual 166, 3) := by decide +kernel
theorem dX12_person_90 : decode cX12_person 90 = .ok (.ireturn, 1) := by decide +kernel
theorem dX12_person_91 : decode cX12_person 91 = .ok (.aload_n 0, 1) := by decide +kernel
theorem dX12_person_92 : decode cX12_person 92 = .ok (.getfield 19, 3) := by decide +kernel
theorem dX12_person_95 : decode cX12_person 95 = .ok (.iload_n 1, 1) := by decide +kernel
theorem dX12_person_96 : decode cX12_person 96 = .ok (.invokevirtual 170, 3) := by decide +kernel
theorem dX12_person_99 : decode cX12_person 99 = .ok (.ireturn, 1) := by decide +kernel
theorem dX12_person_100 : decode cX12_person 100 = .ok (.aload_n 0, 1) := by decide +kernel
theorem dX12_person_101 : decode cX12_person 101 = .ok (.getfield 40, 3) := by decide +kernel
theorem dX12_person_104 : decode cX12_person 104 = .ok (.getfield 173, 3) := by decide +kernel
theorem dX12_person_107 : decode cX12_person 107 = .ok (.iload_n 1, 1) := by decide +kernel
theorem dX12_person_108 : decode cX12_person 108 = .ok (.iaload, 1) := by decide +kernel
theorem dX12_person_109 : decode cX12_person 109 = .ok (.ireturn, 1) := by decide +kernel
theorem dX12_person_110 : decode cX12_person 110 = .ok (.aload_n 0, 1) := by decide +kernel
theorem dX12_person_111 : decode cX12_person 111 = .ok (.getfield 40, 3) := by decide +kernel
theorem dX12_person_114 : decode cX12_person 114 = .ok (.iload_n 1, 1) := by decide +kernel
theorem dX12_person_115 : decode cX12_person 115 = .ok (.invokevirtual 176, 3) := by decide +kernel
theorem dX12_person_118 : decode cX12_person 118 = .ok (.invokestatic 158, 3) := by decide +kernel
theorem dX12_person_121 : decode cX12_person 121 = .ok (.ireturn, 1) := by decide +kernel
theorem dX12_person_122 : decode cX12_person 122 = .ok (.new 148, 3) := by decide +kernel
theorem dX12_person_125 : decode cX12_person 125 = .ok (.dup, 1) := by decide +kernel
theorem dX12_person_126 : decode cX12_person 126 = .ok (.ldc 179, 2) := by decide +kernel
theorem dX12_person_128 : decode cX12_person 128 = .ok (.invokespecial 152, 3) := by decide +kernel
theorem dX12_person_131 : decode cX12_person 131 = .ok (.athrow, 1) := by decide +kernel
theorem dX12_glass_0 : decode cX12_glass 0 = .ok (.aload_n 0, 1) := by decide +kernel
theorem dX12_glass_1 : decode cX12_glass 1 = .ok (.getfield 19, 3) := by decide +kernel
theorem dX12_glass_4 : decode cX12_glass 4 = .ok (.iload_n 1, 1) := by decide +kernel
theorem dX12_glass_5 : decode cX12_glass 5 = .ok (.invokevirtual 181, 3) := by decide +kernel
theorem dX12_glass_8 : decode cX12_glass 8 = .ok (.ifCond .ne 13, 3) := by decide +kernel
theorem dX12_glass_11 : decode cX12_glass 11 = .ok (.new 148, 3) := by decide +kernel
theorem dX12_glass_14 : decode cX12_glass 14 = .ok (.dup, 1) := by decide +kernel
theorem dX12_glass_15 : decode cX12_glass 15 = .ok (.ldc 184, 2) := by decide +kernel
theorem dX12_glass_17 : decode cX12_glass 17 = .ok (.invokespecial 152, 3) := by decide +kernel
theorem dX12_glass_20 : decode cX12_glass 20 = .ok (.athrow, 1) := by decide +kernel
theorem dX12_glass_21 : decode cX12_glass 21 = .ok (.iload_n 2, 1) := by decide +kernel
theorem dX12_glass_22 : decode cX12_glass 22 = .ok (.tableswitch 190 0 9 #[54, 64, 74, 84, 94, 104, 114, 126, 136, 146], 54) := by decide +kernel
theorem dX12_glass_76 : decode cX12_glass 76 = .ok (.aload_n 0, 1) := by decide +kernel
theorem dX12_glass_77 : decode cX12_glass 77 = .ok (.getfield 19, 3) := by decide +kernel
theorem dX12_glass_80 : decode cX12_glass 80 = .ok (.getfield 186, 3) := by decide +kernel
theorem dX12_glass_83 : decode cX12_glass 83 = .ok (.iload_n 1, 1) := by decide +kernel
theorem dX12_glass_84 : decode cX12_glass 84 = .ok (.iaload, 1) := by decide +kernel
theorem dX12_glass_85 : decode cX12_glass 85 = .ok (.ireturn, 1) := by decide +kernel
theorem dX12_glass_86 : decode cX12_glass 86 = .ok (.aload_n 0, 1) := by decide +kernel
theorem dX12_glass_87 : decode cX12_glass 87 = .ok (.getfield 19, 3) := by decide +kernel
theorem dX12_glass_90 : decode cX12_glass 90 = .ok (.getfield 189, 3) := by decide +kernel
theorem dX12_glass_93 : decode cX12_glass 93 = .ok (.iload_n 1, 1) := by decide +kernel
theorem dX12_glass_94 : decode cX12_glass 94 = .ok (.iaload, 1) := by decide +kernel
theorem dX12_glass_95 : decode cX12_glass 95 = .ok (.ireturn, 1) := by decide +kernel
theorem dX12_glass_96 : decode cX12_glass 96 = .ok (.aload_n 0, 1) := by decide +kernel
theorem dX12_glass_97 : decode cX12_glass 97 = .ok (.getfield 19, 3) := by decide +kernel
theorem dX12_glass_100 : decode cX12_glass 100 = .ok (.getfield 192, 3) := by decide +kernel
theorem dX12_glass_103 : decode cX12_glass 103 = .ok (.iload_n 1, 1) := by decide +kernel
theorem dX12_glass_104 : decode cX12_glass 104 = .ok (.iaload, 1) := by decide +kernel
theorem dX12_glass_105 : decode cX12_glass 105 = .ok (.ireturn, 1) := by decide +kernel
theorem dX12_glass_106 : decode cX12_glass 106 = .ok (.aload_n 0, 1) := by decide +kernel
theorem dX12_glass_107 : decode cX12_glass 107 = .ok (.getfield 40, 3) := by decide +kernel
theorem dX12_glass_110 : decode cX12_glass 110 = .ok (.getfield 195, 3) := by decide +kernel
theorem dX12_glass_113 : decode cX12_glass 113 = .ok (.iload_n 1, 1) := by decide +kernel
theorem dX12_glass_114 : decode cX12_glass 114 = .ok (.iaload, 1) := by decide +kernel
theorem dX12_glass_115 : decode cX12_glass 115 = .ok (.ireturn, 1) := by decide +kernel
theorem dX12_glass_116 : decode cX12_glass 116 = .ok (.aload_n 0, 1) := by decide +kernel
theorem dX12_glass_117 : decode cX12_glass 117 = .ok (.getfield 40, 3) := by decide +kernel
theorem dX12_glass_120 : decode cX12_glass 120 = .ok (.getfield 198, 3) := by decide +kernel
theorem dX12_glass_123 : decode cX12_glass 123 = .ok (.iload_n 1, 1) := by decide +kernel
theorem dX12_glass_124 : decode cX12_glass 124 = .ok (.iaload, 1) := by decide +kernel
theorem dX12_glass_125 : decode cX12_glass 125 = .ok (.ireturn, 1) := by decide +kernel
theorem dX12_glass_126 : decode cX12_glass 126 = .ok (.aload_n 0, 1) := by decide +kernel
theorem dX12_glass_127 : decode cX12_glass 127 = .ok (.getfield 40, 3) := by decide +kernel
theorem dX12_glass_130 : decode cX12_glass 130 = .ok (.getfield 201, 3) := by decide +kernel
theorem dX12_glass_133 : decode cX12_glass 133 = .ok (.iload_n 1, 1) := by decide +kernel
theorem dX12_glass_134 : decode cX12_glass 134 = .ok (.iaload, 1) := by decide +kernel
theorem dX12_glass_135 : decode cX12_glass 135 = .ok (.ireturn, 1) := by decide +kernel
theorem dX12_glass_136 : decode cX12_glass 136 = .ok (.aload_n 0, 1) := by decide +kernel
theorem dX12_glass_137 : decode cX12_glass 137 = .ok (.getfield 40, 3) := by decide +kernel
theorem dX12_glass_140 : decode cX12_glass 140 = .ok (.iload_n 1, 1) := by decide +kernel
theorem dX12_glass_141 : decode cX12_glass 141 = .ok (.invokevirtual 204, 3) := by decide +kernel
theorem dX12_glass_144 : decode cX12_glass 144 = .ok (.invokestatic 158, 3) := by decide +kernel
theorem dX12_glass_147 : decode cX12_glass 147 = .ok (.ireturn, 1) := by decide +kernel
theorem dX12_glass_148 : decode cX12_glass 148 = .ok (.aload_n 0, 1) := by decide +kernel
theorem dX12_glass_149 : decode cX12_glass 149 = .ok (.getfield 40, 3) := by decide +kernel
theorem dX12_glass_152 : decode cX12_glass 152 = .ok (.getfield 207, 3) := by decide +kernel
theorem dX12_glass_155 : decode cX12_glass 155 = .ok (.iload_n 1, 1) := by decide +kernel
theorem dX12_glass_156 : decode cX12_glass 156 = .ok (.iaload, 1) := by decide +kernel
theorem dX12_glass_157 : decode cX12_glass 157 = .ok (.ireturn, 1) := by decide +kernel
theorem dX12_glass_158 : decode cX12_glass 158 = .ok (.aload_n 0, 1) := by decide +kernel
theorem dX12_glass_159 : decode cX12_glass 159 = .ok (.getfield 40, 3) := by decide +kernel
theorem dX12_glass_162 : decode cX12_glass 162 = .ok (.getfield 210, 3) := by decide +kernel
theorem dX12_glass_165 : decode cX12_glass 165 = .ok (.iload_n 1, 1) := by decide +kernel
theorem dX12_glass_166 : decode cX12_glass 166 = .ok (.iaload, 1) := by decide +kernel
theorem dX12_glass_167 : decode cX12_glass 167 = .ok (.ireturn, 1) := by decide +kernel
theorem dX12_glass_168 : decode cX12_glass 168 = .ok (.aload_n 0, 1) := by decide +kernel
theorem dX12_glass_169 : decode cX12_glass 169 = .ok (.getfield 40, 3) := by decide +kernel
theorem dX12_glass_172 : decode cX12_glass 172 = .ok (.iload_n 1, 1) := by decide +kernel
theorem dX12_glass_173 : decode cX12_glass 173 = .ok (.invokevirtual 204, 3) := by decide +kernel
theorem dX12_glass_176 : decode cX12_glass 176 = .ok (.ifCond .ne 16, 3) := by decide +kernel
theorem dX12_glass_179 : decode cX12_glass 179 = .ok (.aload_n 0, 1) := by decide +kernel
theorem dX12_glass_180 : decode cX12_glass 180 = .ok (.getfield 40, 3) := by decide +kernel
theorem dX12_glass_183 : decode cX12_glass 183 = .ok (.getfield 213, 3) := by decide +kernel
theorem dX12_glass_186 : decode cX12_glass 186 = .ok (.sipush 600, 3) := by decide +kernel
theorem dX12_glass_189 : decode cX12_glass 189 = .ok (.if_icmp .lt 7, 3) := by decide +kernel
theorem dX12_glass_192 : decode cX12_glass 192 = .ok (.iconst 0, 1) := by decide +kernel
theorem dX12_glass_193 : decode cX12_glass 193 = .ok (.goto 18, 3) := by decide +kernel
theorem dX12_glass_196 : decode cX12_glass 196 = .ok (.aload_n 0, 1) := by decide +kernel
theorem dX12_glass_197 : decode cX12_glass 197 = .ok (.getfield 40, 3) := by decide +kernel
theorem dX12_glass_200 : decode cX12_glass 200 = .ok (.iload_n 1, 1) := by decide +kernel
theorem dX12_glass_201 : decode cX12_glass 201 = .ok (.aload_n 0, 1) := by decide +kernel
theorem dX12_glass_202 : decode cX12_glass 202 = .ok (.getfield 40, 3) := by decide +kernel
theorem dX12_glass_205 : decode cX12_glass 205 = .ok (.getfield 213, 3) := by decide +kernel
theorem dX12_glass_208 : decode cX12_glass 208 = .ok (.invokevirtual 216, 3) := by decide +kernel
theorem dX12_glass_211 : decode cX12_glass 211 = .ok (.ireturn, 1) := by decide +kernel
theorem dX12_glass_212 : decode cX12_glass 212 = .ok (.new 148, 3) := by decide +kernel
theorem dX12_glass_215 : decode cX12_glass 215 = .ok (.dup, 1) := by decide +kernel
theorem dX12_glass_216 : decode cX12_glass 216 = .ok (.ldc 220, 2) := by decide +kernel
theorem dX12_glass_218 : decode cX12_glass 218 = .ok (.invokespecial 152, 3) := by decide +kernel
theorem dX12_glass_221 : decode cX12_glass 221 = .ok (.athrow, 1) := by decide +kernel
theorem dX12_now_0 : decode cX12_now 0 = .ok (.iload_n 1, 1) := by decide +kernel
theorem dX12_now_1 : decode cX12_now 1 = .ok (.tableswitch 111 0 5 #[39, 47, 65, 73, 81, 96], 39) := by decide +kernel
theorem dX12_now_40 : decode cX12_now 40 = .ok (.aload_n 0, 1) := by decide +kernel
theorem dX12_now_41 : decode cX12_now 41 = .ok (.getfield 40, 3) := by decide +kernel
theorem dX12_now_44 : decode cX12_now 44 = .ok (.getfield 213, 3) := by decide +kernel
theorem dX12_now_47 : decode cX12_now 47 = .ok (.ireturn, 1) := by decide +kernel
theorem dX12_now_48 : decode cX12_now 48 = .ok (.aload_n 0, 1) := by decide +kernel
theorem dX12_now_49 : decode cX12_now 49 = .ok (.getfield 19, 3) := by decide +kernel
theorem dX12_now_52 : decode cX12_now 52 = .ok (.aload_n 0, 1) := by decide +kernel
theorem dX12_now_53 : decode cX12_now 53 = .ok (.getfield 40, 3) := by decide +kernel
theorem dX12_now_56 : decode cX12_now 56 = .ok (.getfield 213, 3) := by decide +kernel
theorem dX12_now_59 : decode cX12_now 59 = .ok (.invokevirtual 222, 3) := by decide +kernel
theorem dX12_now_62 : decode cX12_now 62 = .ok (.invokestatic 158, 3) := by decide +kernel
theorem dX12_now_65 : decode cX12_now 65 = .ok (.ireturn, 1) := by decide +kernel
theorem dX12_now_66 : decode cX12_now 66 = .ok (.aload_n 0, 1) := by decide +kernel
theorem dX12_now_67 : decode cX12_now 67 = .ok (.getfield 40, 3) := by decide +kernel
theorem dX12_now_70 : decode cX12_now 70 = .ok (.getfield 225, 3) := by decide +kernel
theorem dX12_now_73 : decode cX12_now 73 = .ok (.ireturn, 1) := by decide +kernel
theorem dX12_now_74 : decode cX12_now 74 = .ok (.aload_n 0, 1) := by decide +kernel
theorem dX12_now_75 : decode cX12_now 75 = .ok (.getfield 40, 3) := by decide +kernel
theorem dX12_now_78 : decode cX12_now 78 = .ok (.invokevirtual 228, 3) := by decide +kernel
theorem dX12_now_81 : decode cX12_now 81 = .ok (.ireturn, 1) := by decide +kernel
theorem dX12_now_82 : decode cX12_now 82 = .ok (.aload_n 0, 1) := by decide +kernel
theorem dX12_now_83 : decode cX12_now 83 = .ok (.getfield 40, 3) := by decide +kernel
theorem dX12_now_86 : decode cX12_now 86 = .ok (.aload_n 0, 1) := by decide +kernel
theorem dX12_now_87 : decode cX12_now 87 = .ok (.getfield 40, 3) := by decide +kernel
theorem dX12_now_90 : decode cX12_now 90 = .ok (.getfield 210, 3) := by decide +kernel
theorem dX12_now_93 : decode cX12_now 93 = .ok (.invokevirtual 231, 3) := by decide +kernel
theorem dX12_now_96 : decode cX12_now 96 = .ok (.ireturn, 1) := by decide +kernel
theorem dX12_now_97 : decode cX12_now 97 = .ok (.aload_n 0, 1) := by decide +kernel
theorem dX12_now_98 : decode cX12_now 98 = .ok (.getfield 40, 3) := by decide +kernel
theorem dX12_now_101 : decode cX12_now 101 = .ok (.aload_n 0, 1) := by decide +kernel
theorem dX12_now_102 : decode cX12_now 102 = .ok (.getfield 40, 3) := by decide +kernel
theorem dX12_now_105 : decode cX12_now 105 = .ok (.getfield 198, 3) := by decide +kernel
theorem dX12_now_108 : decode cX12_now 108 = .ok (.invokevirtual 231, 3) := by decide +kernel
theorem dX12_now_111 : decode cX12_now 111 = .ok (.ireturn, 1) := by decide +kernel
theorem dX12_now_112 : decode cX12_now 112 = .ok (.iconst (-1), 1) := by decide +kernel
theorem dX12_now_113 : decode cX12_now 113 = .ok (.ireturn, 1) := by decide +kernel
theorem dX12_count_0 : decode cX12_count 0 = .ok (.iload_n 1, 1) := by decide +kernel
theorem dX12_count_1 : decode cX12_count 1 = .ok (.tableswitch 132 0 8 #[51, 59, 67, 78, 86, 94, 105, 116, 124], 51) := by decide +kernel
theorem dX12_count_52 : decode cX12_count 52 = .ok (.aload_n 0, 1) := by decide +kernel
theorem dX12_count_53 : decode cX12_count 53 = .ok (.getfield 19, 3) := by decide +kernel
theorem dX12_count_56 : decode cX12_count 56 = .ok (.getfield 235, 3) := by decide +kernel
theorem dX12_count_59 : decode cX12_count 59 = .ok (.ireturn, 1) := by decide +kernel
theorem dX12_count_60 : decode cX12_count 60 = .ok (.aload_n 0, 1) := by decide +kernel
theorem dX12_count_61 : decode cX12_count 61 = .ok (.getfield 19, 3) := by decide +kernel
theorem dX12_count_64 : decode cX12_count 64 = .ok (.getfield 238, 3) := by decide +kernel
theorem dX12_count_67 : decode cX12_count 67 = .ok (.ireturn, 1) := by decide +kernel
theorem dX12_count_68 : decode cX12_count 68 = .ok (.aload_n 0, 1) := by decide +kernel
theorem dX12_count_69 : decode cX12_count 69 = .ok (.getfield 19, 3) := by decide +kernel
theorem dX12_count_72 : decode cX12_count 72 = .ok (.getfield 241, 3) := by decide +kernel
theorem dX12_count_75 : decode cX12_count 75 = .ok (.getfield 245, 3) := by decide +kernel
theorem dX12_count_78 : decode cX12_count 78 = .ok (.ireturn, 1) := by decide +kernel
theorem dX12_count_79 : decode cX12_count 79 = .ok (.aload_n 0, 1) := by decide +kernel
theorem dX12_count_80 : decode cX12_count 80 = .ok (.getfield 19, 3) := by decide +kernel
theorem dX12_count_83 : decode cX12_count 83 = .ok (.getfield 248, 3) := by decide +kernel
theorem dX12_count_86 : decode cX12_count 86 = .ok (.ireturn, 1) := by decide +kernel
theorem dX12_count_87 : decode cX12_count 87 = .ok (.aload_n 0, 1) := by decide +kernel
theorem dX12_count_88 : decode cX12_count 88 = .ok (.getfield 19, 3) := by decide +kernel
theorem dX12_count_91 : decode cX12_count 91 = .ok (.getfield 251, 3) := by decide +kernel
theorem dX12_count_94 : decode cX12_count 94 = .ok (.ireturn, 1) := by decide +kernel
theorem dX12_count_95 : decode cX12_count 95 = .ok (.aload_n 0, 1) := by decide +kernel
theorem dX12_count_96 : decode cX12_count 96 = .ok (.getfield 19, 3) := by decide +kernel
theorem dX12_count_99 : decode cX12_count 99 = .ok (.getfield 254, 3) := by decide +kernel
theorem dX12_count_102 : decode cX12_count 102 = .ok (.invokestatic 158, 3) := by decide +kernel
theorem dX12_count_105 : decode cX12_count 105 = .ok (.ireturn, 1) := by decide +kernel
theorem dX12_count_106 : decode cX12_count 106 = .ok (.aload_n 0, 1) := by decide +kernel
theorem dX12_count_107 : decode cX12_count 107 = .ok (.getfield 19, 3) := by decide +kernel
theorem dX12_count_110 : decode cX12_count 110 = .ok (.getfield 258, 3) := by decide +kernel
theorem dX12_count_113 : decode cX12_count 113 = .ok (.invokestatic 158, 3) := by decide +kernel
theorem dX12_count_116 : decode cX12_count 116 = .ok (.ireturn, 1) := by decide +kernel
theorem dX12_count_117 : decode cX12_count 117 = .ok (.aload_n 0, 1) := by decide +kernel
theorem dX12_count_118 : decode cX12_count 118 = .ok (.getfield 19, 3) := by decide +kernel
theorem dX12_count_121 : decode cX12_count 121 = .ok (.getfield 261, 3) := by decide +kernel
theorem dX12_count_124 : decode cX12_count 124 = .ok (.ireturn, 1) := by decide +kernel
theorem dX12_count_125 : decode cX12_count 125 = .ok (.aload_n 0, 1) := by decide +kernel
theorem dX12_count_126 : decode cX12_count 126 = .ok (.getfield 10, 3) := by decide +kernel
theorem dX12_count_129 : decode cX12_count 129 = .ok (.getfield 120, 3) := by decide +kernel
theorem dX12_count_132 : decode cX12_count 132 = .ok (.ireturn, 1) := by decide +kernel
theorem dX12_count_133 : decode cX12_count 133 = .ok (.iconst (-1), 1) := by decide +kernel
theorem dX12_count_134 : decode cX12_count 134 = .ok (.ireturn, 1) := by decide +kernel
theorem dX12_asNumber_0 : decode cX12_asNumber 0 = .ok (.iload_n 0, 1) := by decide +kernel
theorem dX12_asNumber_1 : decode cX12_asNumber 1 = .ok (.ifCond .eq 7, 3) := by decide +kernel
theorem dX12_asNumber_4 : decode cX12_asNumber 4 = .ok (.iconst 1, 1) := by decide +kernel
theorem dX12_asNumber_5 : decode cX12_asNumber 5 = .ok (.goto 4, 3) := by decide +kernel
theorem dX12_asNumber_8 : decode cX12_asNumber 8 = .ok (.iconst 0, 1) := by decide +kernel
theorem dX12_asNumber_9 : decode cX12_asNumber 9 = .ok (.ireturn, 1) := by decide +kernel
theorem dX12_isFrom_0 : decode cX12_isFrom 0 = .ok (.iload_n 2, 1) := by decide +kernel
theorem dX12_isFrom_1 : decode cX12_isFrom 1 = .ok (.iload_n 0, 1) := by decide +kernel
theorem dX12_isFrom_2 : decode cX12_isFrom 2 = .ok (.if_icmp .lt 12, 3) := by decide +kernel
theorem dX12_isFrom_5 : decode cX12_isFrom 5 = .ok (.iload_n 2, 1) := by decide +kernel
theorem dX12_isFrom_6 : decode cX12_isFrom 6 = .ok (.iload_n 1, 1) := by decide +kernel
theorem dX12_isFrom_7 : decode cX12_isFrom 7 = .ok (.if_icmp .gt 7, 3) := by decide +kernel
theorem dX12_isFrom_10 : decode cX12_isFrom 10 = .ok (.iconst 1, 1) := by decide +kernel
theorem dX12_isFrom_11 : decode cX12_isFrom 11 = .ok (.goto 4, 3) := by decide +kernel
theorem dX12_isFrom_14 : decode cX12_isFrom 14 = .ok (.iconst 0, 1) := by decide +kernel
theorem dX12_isFrom_15 : decode cX12_isFrom 15 = .ok (.ireturn, 1) := by decide +kernel
theorem dX12_turn_0 : decode cX12_turn 0 = .ok (.aload_n 0, 1) := by decide +kernel
theorem dX12_turn_1 : decode cX12_turn 1 = .ok (.getfield 19, 3) := by decide +kernel
theorem dX12_turn_4 : decode cX12_turn 4 = .ok (.iload_n 1, 1) := by decide +kernel
theorem dX12_turn_5 : decode cX12_turn 5 = .ok (.invokevirtual 144, 3) := by decide +kernel
theorem dX12_turn_8 : decode cX12_turn 8 = .ok (.ifCond .eq 13, 3) := by decide +kernel
theorem dX12_turn_11 : decode cX12_turn 11 = .ok (.aload_n 0, 1) := by decide +kernel
theorem dX12_turn_12 : decode cX12_turn 12 = .ok (.iconst 0, 1) := by decide +kernel
theorem dX12_turn_13 : decode cX12_turn 13 = .ok (.iload_n 1, 1) := by decide +kernel
theorem dX12_turn_14 : decode cX12_turn 14 = .ok (.iconst 0, 1) := by decide +kernel
theorem dX12_turn_15 : decode cX12_turn 15 = .ok (.invokevirtual 264, 3) := by decide +kernel
theorem dX12_turn_18 : decode cX12_turn 18 = .ok (.goto 4, 3) := by decide +kernel
theorem dX12_turn_21 : decode cX12_turn 21 = .ok (.iconst (-1), 1) := by decide +kernel
theorem dX12_turn_22 : decode cX12_turn 22 = .ok (.ireturn, 1) := by decide +kernel
theorem dX12_wake_0 : decode cX12_wake 0 = .ok (.aload_n 0, 1) := by decide +kernel
theorem dX12_wake_1 : decode cX12_wake 1 = .ok (.getfield 19, 3) := by decide +kernel
theorem dX12_wake_4 : decode cX12_wake 4 = .ok (.iload_n 1, 1) := by decide +kernel
theorem dX12_wake_5 : decode cX12_wake 5 = .ok (.invokevirtual 144, 3) := by decide +kernel
theorem dX12_wake_8 : decode cX12_wake 8 = .ok (.ifCond .eq 13, 3) := by decide +kernel
theorem dX12_wake_11 : decode cX12_wake 11 = .ok (.aload_n 0, 1) := by decide +kernel
theorem dX12_wake_12 : decode cX12_wake 12 = .ok (.iconst 1, 1) := by decide +kernel
theorem dX12_wake_13 : decode cX12_wake 13 = .ok (.iload_n 1, 1) := by decide +kernel
theorem dX12_wake_14 : decode cX12_wake 14 = .ok (.iconst 0, 1) := by decide +kernel
theorem dX12_wake_15 : decode cX12_wake 15 = .ok (.invokevirtual 264, 3) := by decide +kernel
theorem dX12_wake_18 : decode cX12_wake 18 = .ok (.goto 4, 3) := by decide +kernel
theorem dX12_wake_21 : decode cX12_wake 21 = .ok (.iconst (-1), 1) := by decide +kernel
theorem dX12_wake_22 : decode cX12_wake 22 = .ok (.ireturn, 1) := by decide +kernel
theorem dX12_woo_0 : decode cX12_woo 0 = .ok (.aload_n 0, 1) := by decide +kernel
theorem dX12_woo_1 : decode cX12_woo 1 = .ok (.getfield 19, 3) := by decide +kernel
theorem dX12_woo_4 : decode cX12_woo 4 = .ok (.iload_n 1, 1) := by decide +kernel
theorem dX12_woo_5 : decode cX12_woo 5 = .ok (.invokevirtual 144, 3) := by decide +kernel
theorem dX12_woo_8 : decode cX12_woo 8 = .ok (.ifCond .eq 23, 3) := by decide +kernel
theorem dX12_woo_11 : decode cX12_woo 11 = .ok (.iconst 1, 1) := by decide +kernel
theorem dX12_woo_12 : decode cX12_woo 12 = .ok (.bipush 20, 2) := by decide +kernel
theorem dX12_woo_14 : decode cX12_woo 14 = .ok (.iload_n 2, 1) := by decide +kernel
theorem dX12_woo_15 : decode cX12_woo 15 = .ok (.invokestatic 268, 3) := by decide +kernel
theorem dX12_woo_18 : decode cX12_woo 18 = .ok (.ifCond .eq 13, 3) := by decide +kernel
theorem dX12_woo_21 : decode cX12_woo 21 = .ok (.aload_n 0, 1) := by decide +kernel
theorem dX12_woo_22 : decode cX12_woo 22 = .ok (.iconst 2, 1) := by decide +kernel
theorem dX12_woo_23 : decode cX12_woo 23 = .ok (.iload_n 1, 1) := by decide +kernel
theorem dX12_woo_24 : decode cX12_woo 24 = .ok (.iload_n 2, 1) := by decide +kernel
theorem dX12_woo_25 : decode cX12_woo 25 = .ok (.invokevirtual 264, 3) := by decide +kernel
theorem dX12_woo_28 : decode cX12_woo 28 = .ok (.goto 4, 3) := by decide +kernel
theorem dX12_woo_31 : decode cX12_woo 31 = .ok (.iconst (-1), 1) := by decide +kernel
theorem dX12_woo_32 : decode cX12_woo 32 = .ok (.ireturn, 1) := by decide +kernel
theorem dX12_tilt_0 : decode cX12_tilt 0 = .ok (.aload_n 0, 1) := by decide +kernel
theorem dX12_tilt_1 : decode cX12_tilt 1 = .ok (.getfield 19, 3) := by decide +kernel
theorem dX12_tilt_4 : decode cX12_tilt 4 = .ok (.iload_n 1, 1) := by decide +kernel
theorem dX12_tilt_5 : decode cX12_tilt 5 = .ok (.invokevirtual 181, 3) := by decide +kernel
theorem dX12_tilt_8 : decode cX12_tilt 8 = .ok (.ifCond .eq 22, 3) := by decide +kernel
theorem dX12_tilt_11 : decode cX12_tilt 11 = .ok (.iconst 0, 1) := by decide +kernel
theorem dX12_tilt_12 : decode cX12_tilt 12 = .ok (.iconst 2, 1) := by decide +kernel
theorem dX12_tilt_13 : decode cX12_tilt 13 = .ok (.iload_n 2, 1) := by decide +kernel
theorem dX12_tilt_14 : decode cX12_tilt 14 = .ok (.invokestatic 268, 3) := by decide +kernel
theorem dX12_tilt_17 : decode cX12_tilt 17 = .ok (.ifCond .eq 13, 3) := by decide +kernel
theorem dX12_tilt_20 : decode cX12_tilt 20 = .ok (.aload_n 0, 1) := by decide +kernel
theorem dX12_tilt_21 : decode cX12_tilt 21 = .ok (.iconst 3, 1) := by decide +kernel
theorem dX12_tilt_22 : decode cX12_tilt 22 = .ok (.iload_n 1, 1) := by decide +kernel
theorem dX12_tilt_23 : decode cX12_tilt 23 = .ok (.iload_n 2, 1) := by decide +kernel
theorem dX12_tilt_24 : decode cX12_tilt 24 = .ok (.invokevirtual 264, 3) := by decide +kernel
theorem dX12_tilt_27 : decode cX12_tilt 27 = .ok (.goto 4, 3) := by decide +kernel
theorem dX12_tilt_30 : decode cX12_tilt 30 = .ok (.iconst (-1), 1) := by decide +kernel
theorem dX12_tilt_31 : decode cX12_tilt 31 = .ok (.ireturn, 1) := by decide +kernel
theorem dX12_widen_0 : decode cX12_widen 0 = .ok (.aload_n 0, 1) := by decide +kernel
theorem dX12_widen_1 : decode cX12_widen 1 = .ok (.getfield 19, 3) := by decide +kernel
theorem dX12_widen_4 : decode cX12_widen 4 = .ok (.iload_n 1, 1) := by decide +kernel
theorem dX12_widen_5 : decode cX12_widen 5 = .ok (.invokevirtual 181, 3) := by decide +kernel
theorem dX12_widen_8 : decode cX12_widen 8 = .ok (.ifCond .eq 23, 3) := by decide +kernel
theorem dX12_widen_11 : decode cX12_widen 11 = .ok (.iconst 1, 1) := by decide +kernel
theorem dX12_widen_12 : decode cX12_widen 12 = .ok (.bipush 8, 2) := by decide +kernel
theorem dX12_widen_14 : decode cX12_widen 14 = .ok (.iload_n 2, 1) := by decide +kernel
theorem dX12_widen_15 : decode cX12_widen 15 = .ok (.invokestatic 268, 3) := by decide +kernel
theorem dX12_widen_18 : decode cX12_widen 18 = .ok (.ifCond .eq 13, 3) := by decide +kernel
theorem dX12_widen_21 : decode cX12_widen 21 = .ok (.aload_n 0, 1) := by decide +kernel
theorem dX12_widen_22 : decode cX12_widen 22 = .ok (.iconst 4, 1) := by decide +kernel
theorem dX12_widen_23 : decode cX12_widen 23 = .ok (.iload_n 1, 1) := by decide +kernel
theorem dX12_widen_24 : decode cX12_widen 24 = .ok (.iload_n 2, 1) := by decide +kernel
theorem dX12_widen_25 : decode cX12_widen 25 = .ok (.invokevirtual 264, 3) := by decide +kernel
theorem dX12_widen_28 : decode cX12_widen 28 = .ok (.goto 4, 3) := by decide +kernel
theorem dX12_widen_31 : decode cX12_widen 31 = .ok (.iconst (-1), 1) := by decide +kernel
theorem dX12_widen_32 : decode cX12_widen 32 = .ok (.ireturn, 1) := by decide +kernel
theorem dX12_spill_0 : decode cX12_spill 0 = .ok (.aload_n 0, 1) := by decide +kernel
theorem dX12_spill_1 : decode cX12_spill 1 = .ok (.getfield 19, 3) := by decide +kernel
theorem dX12_spill_4 : decode cX12_spill 4 = .ok (.iload_n 1, 1) := by decide +kernel
theorem dX12_spill_5 : decode cX12_spill 5 = .ok (.invokevirtual 181, 3) := by decide +kernel
theorem dX12_spill_8 : decode cX12_spill 8 = .ok (.ifCond .eq 24, 3) := by decide +kernel
theorem dX12_spill_11 : decode cX12_spill 11 = .ok (.iconst 1, 1) := by decide +kernel
theorem dX12_spill_12 : decode cX12_spill 12 = .ok (.sipush 250, 3) := by decide +kernel
theorem dX12_spill_15 : decode cX12_spill 15 = .ok (.iload_n 2, 1) := by decide +kernel
theorem dX12_spill_16 : decode cX12_spill 16 = .ok (.invokestatic 268, 3) := by decide +kernel
theorem dX12_spill_19 : decode cX12_spill 19 = .ok (.ifCond .eq 13, 3) := by decide +kernel
theorem dX12_spill_22 : decode cX12_spill 22 = .ok (.aload_n 0, 1) := by decide +kernel
theorem dX12_spill_23 : decode cX12_spill 23 = .ok (.iconst 5, 1) := by decide +kernel
theorem dX12_spill_24 : decode cX12_spill 24 = .ok (.iload_n 1, 1) := by decide +kernel
theorem dX12_spill_25 : decode cX12_spill 25 = .ok (.iload_n 2, 1) := by decide +kernel
theorem dX12_spill_26 : decode cX12_spill 26 = .ok (.invokevirtual 264, 3) := by decide +kernel
theorem dX12_spill_29 : decode cX12_spill 29 = .ok (.goto 4, 3) := by decide +kernel
theorem dX12_spill_32 : decode cX12_spill 32 = .ok (.iconst (-1), 1) := by decide +kernel
theorem dX12_spill_33 : decode cX12_spill 33 = .ok (.ireturn, 1) := by decide +kernel
theorem dX12_attempt_0 : decode cX12_attempt 0 = .ok (.aload_n 0, 1) := by decide +kernel
theorem dX12_attempt_1 : decode cX12_attempt 1 = .ok (.getfield 40, 3) := by decide +kernel
theorem dX12_attempt_4 : decode cX12_attempt 4 = .ok (.iload_n 1, 1) := by decide +kernel
theorem dX12_attempt_5 : decode cX12_attempt 5 = .ok (.iload_n 2, 1) := by decide +kernel
theorem dX12_attempt_6 : decode cX12_attempt 6 = .ok (.iload_n 3, 1) := by decide +kernel
theorem dX12_attempt_7 : decode cX12_attempt 7 = .ok (.invokevirtual 272, 3) := by decide +kernel
theorem dX12_attempt_10 : decode cX12_attempt 10 = .ok (.istore 4, 2) := by decide +kernel
theorem dX12_attempt_12 : decode cX12_attempt 12 = .ok (.iload 4, 2) := by decide +kernel
theorem dX12_attempt_14 : decode cX12_attempt 14 = .ok (.ifCond .ne 24, 3) := by decide +kernel
theorem dX12_attempt_17 : decode cX12_attempt 17 = .ok (.aload_n 0, 1) := by decide +kernel
theorem dX12_attempt_18 : decode cX12_attempt 18 = .ok (.getfield 50, 3) := by decide +kernel
theorem dX12_attempt_21 : decode cX12_attempt 21 = .ok (.aload_n 0, 1) := by decide +kernel
theorem dX12_attempt_22 : decode cX12_attempt 22 = .ok (.getfield 40, 3) := by decide +kernel
theorem dX12_attempt_25 : decode cX12_attempt 25 = .ok (.invokevirtual 275, 3) := by decide +kernel
theorem dX12_attempt_28 : decode cX12_attempt 28 = .ok (.aload_n 0, 1) := by decide +kernel
theorem dX12_attempt_29 : decode cX12_attempt 29 = .ok (.getfield 40, 3) := by decide +kernel
theorem dX12_attempt_32 : decode cX12_attempt 32 = .ok (.iload_n 1, 1) := by decide +kernel
theorem dX12_attempt_33 : decode cX12_attempt 33 = .ok (.iload_n 2, 1) := by decide +kernel
theorem dX12_attempt_34 : decode cX12_attempt 34 = .ok (.iload_n 3, 1) := by decide +kernel
theorem dX12_attempt_35 : decode cX12_attempt 35 = .ok (.invokevirtual 279, 3) := by decide +kernel
theorem dX12_attempt_38 : decode cX12_attempt 38 = .ok (.iload 4, 2) := by decide +kernel
theorem dX12_attempt_40 : decode cX12_attempt 40 = .ok (.ireturn, 1) := by decide +kernel
theorem dX12_hours_0 : decode cX12_hours 0 = .ok (.iconst 1, 1) := by decide +kernel
theorem dX12_hours_1 : decode cX12_hours 1 = .ok (.bipush 60, 2) := by decide +kernel
theorem dX12_hours_3 : decode cX12_hours 3 = .ok (.iload_n 1, 1) := by decide +kernel
theorem dX12_hours_4 : decode cX12_hours 4 = .ok (.invokestatic 268, 3) := by decide +kernel
theorem dX12_hours_7 : decode cX12_hours 7 = .ok (.ifCond .ne 5, 3) := by decide +kernel
theorem dX12_hours_10 : decode cX12_hours 10 = .ok (.iconst (-1), 1) := by decide +kernel
theorem dX12_hours_11 : decode cX12_hours 11 = .ok (.ireturn, 1) := by decide +kernel
theorem dX12_hours_12 : decode cX12_hours 12 = .ok (.aload_n 0, 1) := by decide +kernel
theorem dX12_hours_13 : decode cX12_hours 13 = .ok (.getfield 40, 3) := by decide +kernel
theorem dX12_hours_16 : decode cX12_hours 16 = .ok (.iload_n 1, 1) := by decide +kernel
theorem dX12_hours_17 : decode cX12_hours 17 = .ok (.invokevirtual 283, 3) := by decide +kernel
theorem dX12_hours_20 : decode cX12_hours 20 = .ok (.istore_n 2, 1) := by decide +kernel
theorem dX12_hours_21 : decode cX12_hours 21 = .ok (.iload_n 2, 1) := by decide +kernel
theorem dX12_hours_22 : decode cX12_hours 22 = .ok (.ifCond .le 22, 3) := by decide +kernel
theorem dX12_hours_25 : decode cX12_hours 25 = .ok (.aload_n 0, 1) := by decide +kernel
theorem dX12_hours_26 : decode cX12_hours 26 = .ok (.getfield 50, 3) := by decide +kernel
theorem dX12_hours_29 : decode cX12_hours 29 = .ok (.aload_n 0, 1) := by decide +kernel
theorem dX12_hours_30 : decode cX12_hours 30 = .ok (.getfield 40, 3) := by decide +kernel
theorem dX12_hours_33 : decode cX12_hours 33 = .ok (.invokevirtual 275, 3) := by decide +kernel
theorem dX12_hours_36 : decode cX12_hours 36 = .ok (.aload_n 0, 1) := by decide +kernel
theorem dX12_hours_37 : decode cX12_hours 37 = .ok (.getfield 40, 3) := by decide +kernel
theorem dX12_hours_40 : decode cX12_hours 40 = .ok (.iload_n 2, 1) := by decide +kernel
theorem dX12_hours_41 : decode cX12_hours 41 = .ok (.invokevirtual 286, 3) := by decide +kernel
theorem dX12_hours_44 : decode cX12_hours 44 = .ok (.iload_n 2, 1) := by decide +kernel
theorem dX12_hours_45 : decode cX12_hours 45 = .ok (.ireturn, 1) := by decide +kernel
theorem dX12_undo_0 : decode cX12_undo 0 = .ok (.aload_n 0, 1) := by decide +kernel
theorem dX12_undo_1 : decode cX12_undo 1 = .ok (.getfield 50, 3) := by decide +kernel
theorem dX12_undo_4 : decode cX12_undo 4 = .ok (.aload_n 0, 1) := by decide +kernel
theorem dX12_undo_5 : decode cX12_undo 5 = .ok (.getfield 40, 3) := by decide +kernel
theorem dX12_undo_8 : decode cX12_undo 8 = .ok (.invokevirtual 289, 3) := by decide +kernel
theorem dX12_undo_11 : decode cX12_undo 11 = .ok (.ireturn, 1) := by decide +kernel
theorem dX12_isRunning_0 : decode cX12_isRunning 0 = .ok (.aload_n 0, 1) := by decide +kernel
theorem dX12_isRunning_1 : decode cX12_isRunning 1 = .ok (.getfield 19, 3) := by decide +kernel
theorem dX12_isRunning_4 : decode cX12_isRunning 4 = .ok (.iload_n 1, 1) := by decide +kernel
theorem dX12_isRunning_5 : decode cX12_isRunning 5 = .ok (.invokevirtual 181, 3) := by decide +kernel
theorem dX12_isRunning_8 : decode cX12_isRunning 8 = .ok (.ifCond .eq 18, 3) := by decide +kernel
theorem dX12_isRunning_11 : decode cX12_isRunning 11 = .ok (.aload_n 0, 1) := by decide +kernel
theorem dX12_isRunning_12 : decode cX12_isRunning 12 = .ok (.getfield 40, 3) := by decide +kernel
theorem dX12_isRunning_15 : decode cX12_isRunning 15 = .ok (.iload_n 1, 1) := by decide +kernel
theorem dX12_isRunning_16 : decode cX12_isRunning 16 = .ok (.invokevirtual 204, 3) := by decide +kernel
theorem dX12_isRunning_19 : decode cX12_isRunning 19 = .ok (.ifCond .ne 7, 3) := by decide +kernel
theorem dX12_isRunning_22 : decode cX12_isRunning 22 = .ok (.iconst 1, 1) := by decide +kernel
theorem dX12_isRunning_23 : decode cX12_isRunning 23 = .ok (.goto 4, 3) := by decide +kernel
theorem dX12_isRunning_26 : decode cX12_isRunning 26 = .ok (.iconst 0, 1) := by decide +kernel
theorem dX12_isRunning_27 : decode cX12_isRunning 27 = .ok (.ireturn, 1) := by decide +kernel
theorem dX12_ends_0 : decode cX12_ends 0 = .ok (.aload_n 0, 1) := by decide +kernel
theorem dX12_ends_1 : decode cX12_ends 1 = .ok (.iload_n 1, 1) := by decide +kernel
theorem dX12_ends_2 : decode cX12_ends 2 = .ok (.invokevirtual 293, 3) := by decide +kernel
theorem dX12_ends_5 : decode cX12_ends 5 = .ok (.ifCond .eq 11, 3) := by decide +kernel
theorem dX12_ends_8 : decode cX12_ends 8 = .ok (.aload_n 0, 1) := by decide +kernel
theorem dX12_ends_9 : decode cX12_ends 9 = .ok (.iload_n 1, 1) := by decide +kernel
theorem dX12_ends_10 : decode cX12_ends 10 = .ok (.invokevirtual 296, 3) := by decide +kernel
theorem dX12_ends_13 : decode cX12_ends 13 = .ok (.goto 4, 3) := by decide +kernel
theorem dX12_ends_16 : decode cX12_ends 16 = .ok (.iconst (-1), 1) := by decide +kernel
theorem dX12_ends_17 : decode cX12_ends 17 = .ok (.ireturn, 1) := by decide +kernel
theorem dX12_endOf_0 : decode cX12_endOf 0 = .ok (.aload_n 0, 1) := by decide +kernel
theorem dX12_endOf_1 : decode cX12_endOf 1 = .ok (.getfield 59, 3) := by decide +kernel
theorem dX12_endOf_4 : decode cX12_endOf 4 = .ok (.iload_n 1, 1) := by decide +kernel
theorem dX12_endOf_5 : decode cX12_endOf 5 = .ok (.invokevirtual 299, 3) := by decide +kernel
theorem dX12_endOf_8 : decode cX12_endOf 8 = .ok (.aload_n 0, 1) := by decide +kernel
theorem dX12_endOf_9 : decode cX12_endOf 9 = .ok (.getfield 59, 3) := by decide +kernel
theorem dX12_endOf_12 : decode cX12_endOf 12 = .ok (.invokevirtual 302, 3) := by decide +kernel
theorem dX12_endOf_15 : decode cX12_endOf 15 = .ok (.istore_n 2, 1) := by decide +kernel
theorem dX12_endOf_16 : decode cX12_endOf 16 = .ok (.iload_n 2, 1) := by decide +kernel
theorem dX12_endOf_17 : decode cX12_endOf 17 = .ok (.sipush 600, 3) := by decide +kernel
theorem dX12_endOf_20 : decode cX12_endOf 20 = .ok (.if_icmp .ge 7, 3) := by decide +kernel
theorem dX12_endOf_23 : decode cX12_endOf 23 = .ok (.iload_n 2, 1) := by decide +kernel
theorem dX12_endOf_24 : decode cX12_endOf 24 = .ok (.goto 4, 3) := by decide +kernel
theorem dX12_endOf_27 : decode cX12_endOf 27 = .ok (.iconst (-1), 1) := by decide +kernel
theorem dX12_endOf_28 : decode cX12_endOf 28 = .ok (.ireturn, 1) := by decide +kernel
theorem dX12_lapses_0 : decode cX12_lapses 0 = .ok (.aload_n 0, 1) := by decide +kernel
theorem dX12_lapses_1 : decode cX12_lapses 1 = .ok (.iload_n 1, 1) := by decide +kernel
theorem dX12_lapses_2 : decode cX12_lapses 2 = .ok (.invokevirtual 293, 3) := by decide +kernel
theorem dX12_lapses_5 : decode cX12_lapses 5 = .ok (.ifCond .eq 11, 3) := by decide +kernel
theorem dX12_lapses_8 : decode cX12_lapses 8 = .ok (.aload_n 0, 1) := by decide +kernel
theorem dX12_lapses_9 : decode cX12_lapses 9 = .ok (.iload_n 1, 1) := by decide +kernel
theorem dX12_lapses_10 : decode cX12_lapses 10 = .ok (.invokevirtual 305, 3) := by decide +kernel
theorem dX12_lapses_13 : decode cX12_lapses 13 = .ok (.goto 4, 3) := by decide +kernel
theorem dX12_lapses_16 : decode cX12_lapses 16 = .ok (.iconst (-1), 1) := by decide +kernel
theorem dX12_lapses_17 : decode cX12_lapses 17 = .ok (.ireturn, 1) := by decide +kernel
theorem dX12_lapseOf_0 : decode cX12_lapseOf 0 = .ok (.aload_n 0, 1) := by decide +kernel
theorem dX12_lapseOf_1 : decode cX12_lapseOf 1 = .ok (.getfield 59, 3) := by decide +kernel
theorem dX12_lapseOf_4 : decode cX12_lapseOf 4 = .ok (.iload_n 1, 1) := by decide +kernel
theorem dX12_lapseOf_5 : decode cX12_lapseOf 5 = .ok (.invokevirtual 299, 3) := by decide +kernel
theorem dX12_lapseOf_8 : decode cX12_lapseOf 8 = .ok (.aload_n 0, 1) := by decide +kernel
theorem dX12_lapseOf_9 : decode cX12_lapseOf 9 = .ok (.getfield 59, 3) := by decide +kernel
theorem dX12_lapseOf_12 : decode cX12_lapseOf 12 = .ok (.aload_n 0, 1) := by decide +kernel
theorem dX12_lapseOf_13 : decode cX12_lapseOf 13 = .ok (.getfield 40, 3) := by decide +kernel
theorem dX12_lapseOf_16 : decode cX12_lapseOf 16 = .ok (.getfield 198, 3) := by decide +kernel
theorem dX12_lapseOf_19 : decode cX12_lapseOf 19 = .ok (.iload_n 1, 1) := by decide +kernel
theorem dX12_lapseOf_20 : decode cX12_lapseOf 20 = .ok (.iaload, 1) := by decide +kernel
theorem dX12_lapseOf_21 : decode cX12_lapseOf 21 = .ok (.aload_n 0, 1) := by decide +kernel
theorem dX12_lapseOf_22 : decode cX12_lapseOf 22 = .ok (.getfield 19, 3) := by decide +kernel
theorem dX12_lapseOf_25 : decode cX12_lapseOf 25 = .ok (.getfield 248, 3) := by decide +kernel
theorem dX12_lapseOf_28 : decode cX12_lapseOf 28 = .ok (.sipush 600, 3) := by decide +kernel
theorem dX12_lapseOf_31 : decode cX12_lapseOf 31 = .ok (.invokevirtual 308, 3) := by decide +kernel
theorem dX12_lapseOf_34 : decode cX12_lapseOf 34 = .ok (.ireturn, 1) := by decide +kernel
theorem dX12_soonest_0 : decode cX12_soonest 0 = .ok (.iconst (-1), 1) := by decide +kernel
theorem dX12_soonest_1 : decode cX12_soonest 1 = .ok (.istore_n 1, 1) := by decide +kernel
theorem dX12_soonest_2 : decode cX12_soonest 2 = .ok (.sipush 600, 3) := by decide +kernel
theorem dX12_soonest_5 : decode cX12_soonest 5 = .ok (.istore_n 2, 1) := by decide +kernel
theorem dX12_soonest_6 : decode cX12_soonest 6 = .ok (.iconst 0, 1) := by decide +kernel
theorem dX12_soonest_7 : decode cX12_soonest 7 = .ok (.istore_n 3, 1) := by decide +kernel
theorem dX12_soonest_8 : decode cX12_soonest 8 = .ok (.iload_n 3, 1) := by decide +kernel
theorem dX12_soonest_9 : decode cX12_soonest 9 = .ok (.aload_n 0, 1) := by decide +kernel
theorem dX12_soonest_10 : decode cX12_soonest 10 = .ok (.getfield 19, 3) := by decide +kernel
theorem dX12_soonest_13 : decode cX12_soonest 13 = .ok (.getfield 238, 3) := by decide +kernel
theorem dX12_soonest_16 : decode cX12_soonest 16 = .ok (.if_icmp .ge 48, 3) := by decide +kernel
theorem dX12_soonest_19 : decode cX12_soonest 19 = .ok (.aload_n 0, 1) := by decide +kernel
theorem dX12_soonest_20 : decode cX12_soonest 20 = .ok (.getfield 40, 3) := by decide +kernel
theorem dX12_soonest_23 : decode cX12_soonest 23 = .ok (.iload_n 3, 1) := by decide +kernel
theorem dX12_soonest_24 : decode cX12_soonest 24 = .ok (.invokevirtual 204, 3) := by decide +kernel
theorem dX12_soonest_27 : decode cX12_soonest 27 = .ok (.ifCond .eq 7, 3) := by decide +kernel
theorem dX12_soonest_30 : decode cX12_soonest 30 = .ok (.iconst (-1), 1) := by decide +kernel
theorem dX12_soonest_31 : decode cX12_soonest 31 = .ok (.goto 8, 3) := by decide +kernel
theorem dX12_soonest_34 : decode cX12_soonest 34 = .ok (.aload_n 0, 1) := by decide +kernel
theorem dX12_soonest_35 : decode cX12_soonest 35 = .ok (.iload_n 3, 1) := by decide +kernel
theorem dX12_soonest_36 : decode cX12_soonest 36 = .ok (.invokevirtual 305, 3) := by decide +kernel
theorem dX12_soonest_39 : decode cX12_soonest 39 = .ok (.istore 4, 2) := by decide +kernel
theorem dX12_soonest_41 : decode cX12_soonest 41 = .ok (.iload 4, 2) := by decide +kernel
theorem dX12_soonest_43 : decode cX12_soonest 43 = .ok (.iconst (-1), 1) := by decide +kernel
theorem dX12_soonest_44 : decode cX12_soonest 44 = .ok (.if_icmp .eq 14, 3) := by decide +kernel
theorem dX12_soonest_47 : decode cX12_soonest 47 = .ok (.iload 4, 2) := by decide +kernel
theorem dX12_soonest_49 : decode cX12_soonest 49 = .ok (.iload_n 2, 1) := by decide +kernel
theorem dX12_soonest_50 : decode cX12_soonest 50 = .ok (.if_icmp .ge 8, 3) := by decide +kernel
theorem dX12_soonest_53 : decode cX12_soonest 53 = .ok (.iload_n 3, 1) := by decide +kernel
theorem dX12_soonest_54 : decode cX12_soonest 54 = .ok (.istore_n 1, 1) := by decide +kernel
theorem dX12_soonest_55 : decode cX12_soonest 55 = .ok (.iload 4, 2) := by decide +kernel
theorem dX12_soonest_57 : decode cX12_soonest 57 = .ok (.istore_n 2, 1) := by decide +kernel
theorem dX12_soonest_58 : decode cX12_soonest 58 = .ok (.iinc 3 1, 3) := by decide +kernel
theorem dX12_soonest_61 : decode cX12_soonest 61 = .ok (.goto (-53), 3) := by decide +kernel
theorem dX12_soonest_64 : decode cX12_soonest 64 = .ok (.iload_n 1, 1) := by decide +kernel
theorem dX12_soonest_65 : decode cX12_soonest 65 = .ok (.ireturn, 1) := by decide +kernel
theorem dX12_watch_0 : decode cX12_watch 0 = .ok (.aload_n 0, 1) := by decide +kernel
theorem dX12_watch_1 : decode cX12_watch 1 = .ok (.iload_n 1, 1) := by decide +kernel
theorem dX12_watch_2 : decode cX12_watch 2 = .ok (.invokevirtual 293, 3) := by decide +kernel
theorem dX12_watch_5 : decode cX12_watch 5 = .ok (.ifCond .eq 13, 3) := by decide +kernel
theorem dX12_watch_8 : decode cX12_watch 8 = .ok (.iconst 1, 1) := by decide +kernel
theorem dX12_watch_9 : decode cX12_watch 9 = .ok (.bipush 60, 2) := by decide +kernel
theorem dX12_watch_11 : decode cX12_watch 11 = .ok (.iload_n 2, 1) := by decide +kernel
theorem dX12_watch_12 : decode cX12_watch 12 = .ok (.invokestatic 268, 3) := by decide +kernel
theorem dX12_watch_15 : decode cX12_watch 15 = .ok (.ifCond .ne 5, 3) := by decide +kernel
theorem dX12_watch_18 : decode cX12_watch 18 = .ok (.iconst (-1), 1) := by decide +kernel
theorem dX12_watch_19 : decode cX12_watch 19 = .ok (.ireturn, 1) := by decide +kernel
theorem dX12_watch_20 : decode cX12_watch 20 = .ok (.aload_n 0, 1) := by decide +kernel
theorem dX12_watch_21 : decode cX12_watch 21 = .ok (.getfield 59, 3) := by decide +kernel
theorem dX12_watch_24 : decode cX12_watch 24 = .ok (.iload_n 1, 1) := by decide +kernel
theorem dX12_watch_25 : decode cX12_watch 25 = .ok (.invokevirtual 299, 3) := by decide +kernel
theorem dX12_watch_28 : decode cX12_watch 28 = .ok (.aload_n 0, 1) := by decide +kernel
theorem dX12_watch_29 : decode cX12_watch 29 = .ok (.getfield 68, 3) := by decide +kernel
theorem dX12_watch_32 : decode cX12_watch 32 = .ok (.aload_n 0, 1) := by decide +kernel
theorem dX12_watch_33 : decode cX12_watch 33 = .ok (.getfield 40, 3) := by decide +kernel
theorem dX12_watch_36 : decode cX12_watch 36 = .ok (.iload_n 2, 1) := by decide +kernel
theorem dX12_watch_37 : decode cX12_watch 37 = .ok (.invokevirtual 283, 3) := by decide +kernel
theorem dX12_watch_40 : decode cX12_watch 40 = .ok (.invokevirtual 311, 3) := by decide +kernel
theorem dX12_watch_43 : decode cX12_watch 43 = .ok (.ireturn, 1) := by decide +kernel
theorem dX12_waking_0 : decode cX12_waking 0 = .ok (.aload_n 0, 1) := by decide +kernel
theorem dX12_waking_1 : decode cX12_waking 1 = .ok (.getfield 68, 3) := by decide +kernel
theorem dX12_waking_4 : decode cX12_waking 4 = .ok (.iload_n 1, 1) := by decide +kernel
theorem dX12_waking_5 : decode cX12_waking 5 = .ok (.invokevirtual 314, 3) := by decide +kernel
theorem dX12_waking_8 : decode cX12_waking 8 = .ok (.ireturn, 1) := by decide +kernel
theorem dX12_chosen_0 : decode cX12_chosen 0 = .ok (.aload_n 0, 1) := by decide +kernel
theorem dX12_chosen_1 : decode cX12_chosen 1 = .ok (.iload_n 1, 1) := by decide +kernel
theorem dX12_chosen_2 : decode cX12_chosen 2 = .ok (.invokevirtual 293, 3) := by decide +kernel
theorem dX12_chosen_5 : decode cX12_chosen 5 = .ok (.ifCond .ne 5, 3) := by decide +kernel
theorem dX12_chosen_8 : decode cX12_chosen 8 = .ok (.iconst (-1), 1) := by decide +kernel
theorem dX12_chosen_9 : decode cX12_chosen 9 = .ok (.ireturn, 1) := by decide +kernel
theorem dX12_chosen_10 : decode cX12_chosen 10 = .ok (.aload_n 0, 1) := by decide +kernel
theorem dX12_chosen_11 : decode cX12_chosen 11 = .ok (.getfield 59, 3) := by decide +kernel
theorem dX12_chosen_14 : decode cX12_chosen 14 = .ok (.iload_n 1, 1) := by decide +kernel
theorem dX12_chosen_15 : decode cX12_chosen 15 = .ok (.invokevirtual 299, 3) := by decide +kernel
theorem dX12_chosen_18 : decode cX12_chosen 18 = .ok (.aload_n 0, 1) := by decide +kernel
theorem dX12_chosen_19 : decode cX12_chosen 19 = .ok (.getfield 59, 3) := by decide +kernel
theorem dX12_chosen_22 : decode cX12_chosen 22 = .ok (.invokevirtual 317, 3) := by decide +kernel
theorem dX12_chosen_25 : decode cX12_chosen 25 = .ok (.aload_n 0, 1) := by decide +kernel
theorem dX12_chosen_26 : decode cX12_chosen 26 = .ok (.getfield 59, 3) := by decide +kernel
theorem dX12_chosen_29 : decode cX12_chosen 29 = .ok (.getfield 320, 3) := by decide +kernel
theorem dX12_chosen_32 : decode cX12_chosen 32 = .ok (.ireturn, 1) := by decide +kernel
theorem dX12_choices_0 : decode cX12_choices 0 = .ok (.aload_n 0, 1) := by decide +kernel
theorem dX12_choices_1 : decode cX12_choices 1 = .ok (.iload_n 1, 1) := by decide +kernel
theorem dX12_choices_2 : decode cX12_choices 2 = .ok (.invokevirtual 293, 3) := by decide +kernel
theorem dX12_choices_5 : decode cX12_choices 5 = .ok (.ifCond .ne 5, 3) := by decide +kernel
theorem dX12_choices_8 : decode cX12_choices 8 = .ok (.iconst (-1), 1) := by decide +kernel
theorem dX12_choices_9 : decode cX12_choices 9 = .ok (.ireturn, 1) := by decide +kernel
theorem dX12_choices_10 : decode cX12_choices 10 = .ok (.aload_n 0, 1) := by decide +kernel
theorem dX12_choices_11 : decode cX12_choices 11 = .ok (.getfield 59, 3) := by decide +kernel
theorem dX12_choices_14 : decode cX12_choices 14 = .ok (.iload_n 1, 1) := by decide +kernel
theorem dX12_choices_15 : decode cX12_choices 15 = .ok (.invokevirtual 299, 3) := by decide +kernel
theorem dX12_choices_18 : decode cX12_choices 18 = .ok (.aload_n 0, 1) := by decide +kernel
theorem dX12_choices_19 : decode cX12_choices 19 = .ok (.getfield 59, 3) := by decide +kernel
theorem dX12_choices_22 : decode cX12_choices 22 = .ok (.invokevirtual 317, 3) := by decide +kernel
theorem dX12_choices_25 : decode cX12_choices 25 = .ok (.aload_n 0, 1) := by decide +kernel
theorem dX12_choices_26 : decode cX12_choices 26 = .ok (.getfield 59, 3) := by decide +kernel
theorem dX12_choices_29 : decode cX12_choices 29 = .ok (.getfield 323, 3) := by decide +kernel
theorem dX12_choices_32 : decode cX12_choices 32 = .ok (.ireturn, 1) := by decide +kernel
theorem dX12_play_0 : decode cX12_play 0 = .ok (.aload_n 0, 1) := by decide +kernel
theorem dX12_play_1 : decode cX12_play 1 = .ok (.iload_n 1, 1) := by decide +kernel
theorem dX12_play_2 : decode cX12_play 2 = .ok (.invokevirtual 293, 3) := by decide +kernel
theorem dX12_play_5 : decode cX12_play 5 = .ok (.ifCond .ne 5, 3) := by decide +kernel
theorem dX12_play_8 : decode cX12_play 8 = .ok (.iconst (-1), 1) := by decide +kernel
theorem dX12_play_9 : decode cX12_play 9 = .ok (.ireturn, 1) := by decide +kernel
theorem dX12_play_10 : decode cX12_play 10 = .ok (.aload_n 0, 1) := by decide +kernel
theorem dX12_play_11 : decode cX12_play 11 = .ok (.getfield 59, 3) := by decide +kernel
theorem dX12_play_14 : decode cX12_play 14 = .ok (.iload_n 1, 1) := by decide +kernel
theorem dX12_play_15 : decode cX12_play 15 = .ok (.invokevirtual 299, 3) := by decide +kernel
theorem dX12_play_18 : decode cX12_play 18 = .ok (.aload_n 0, 1) := by decide +kernel
theorem dX12_play_19 : decode cX12_play 19 = .ok (.getfield 59, 3) := by decide +kernel
theorem dX12_play_22 : decode cX12_play 22 = .ok (.invokevirtual 326, 3) := by decide +kernel
theorem dX12_play_25 : decode cX12_play 25 = .ok (.aload_n 0, 1) := by decide +kernel
theorem dX12_play_26 : decode cX12_play 26 = .ok (.getfield 59, 3) := by decide +kernel
theorem dX12_play_29 : decode cX12_play 29 = .ok (.getfield 329, 3) := by decide +kernel
theorem dX12_play_32 : decode cX12_play 32 = .ok (.ireturn, 1) := by decide +kernel
theorem dX12_playAt_0 : decode cX12_playAt 0 = .ok (.aload_n 0, 1) := by decide +kernel
theorem dX12_playAt_1 : decode cX12_playAt 1 = .ok (.iload_n 1, 1) := by decide +kernel
theorem dX12_playAt_2 : decode cX12_playAt 2 = .ok (.invokevirtual 293, 3) := by decide +kernel
theorem dX12_playAt_5 : decode cX12_playAt 5 = .ok (.ifCond .ne 5, 3) := by decide +kernel
theorem dX12_playAt_8 : decode cX12_playAt 8 = .ok (.iconst (-1), 1) := by decide +kernel
theorem dX12_playAt_9 : decode cX12_playAt 9 = .ok (.ireturn, 1) := by decide +kernel
theorem dX12_playAt_10 : decode cX12_playAt 10 = .ok (.aload_n 0, 1) := by decide +kernel
theorem dX12_playAt_11 : decode cX12_playAt 11 = .ok (.getfield 59, 3) := by decide +kernel
theorem dX12_playAt_14 : decode cX12_playAt 14 = .ok (.iload_n 1, 1) := by decide +kernel
theorem dX12_playAt_15 : decode cX12_playAt 15 = .ok (.invokevirtual 299, 3) := by decide +kernel
theorem dX12_playAt_18 : decode cX12_playAt 18 = .ok (.aload_n 0, 1) := by decide +kernel
theorem dX12_playAt_19 : decode cX12_playAt 19 = .ok (.getfield 59, 3) := by decide +kernel
theorem dX12_playAt_22 : decode cX12_playAt 22 = .ok (.invokevirtual 326, 3) := by decide +kernel
theorem dX12_playAt_25 : decode cX12_playAt 25 = .ok (.aload_n 0, 1) := by decide +kernel
theorem dX12_playAt_26 : decode cX12_playAt 26 = .ok (.getfield 59, 3) := by decide +kernel
theorem dX12_playAt_29 : decode cX12_playAt 29 = .ok (.getfield 332, 3) := by decide +kernel
theorem dX12_playAt_32 : decode cX12_playAt 32 = .ok (.ireturn, 1) := by decide +kernel
theorem dX12_steal_0 : decode cX12_steal 0 = .ok (.aload_n 0, 1) := by decide +kernel
theorem dX12_steal_1 : decode cX12_steal 1 = .ok (.iload_n 1, 1) := by decide +kernel
theorem dX12_steal_2 : decode cX12_steal 2 = .ok (.invokevirtual 293, 3) := by decide +kernel
theorem dX12_steal_5 : decode cX12_steal 5 = .ok (.ifCond .eq 21, 3) := by decide +kernel
theorem dX12_steal_8 : decode cX12_steal 8 = .ok (.iload_n 2, 1) := by decide +kernel
theorem dX12_steal_9 : decode cX12_steal 9 = .ok (.aload_n 0, 1) := by decide +kernel
theorem dX12_steal_10 : decode cX12_steal 10 = .ok (.getfield 40, 3) := by decide +kernel
theorem dX12_steal_13 : decode cX12_steal 13 = .ok (.getfield 213, 3) := by decide +kernel
theorem dX12_steal_16 : decode cX12_steal 16 = .ok (.if_icmp .le 10, 3) := by decide +kernel
theorem dX12_steal_19 : decode cX12_steal 19 = .ok (.iload_n 2, 1) := by decide +kernel
theorem dX12_steal_20 : decode cX12_steal 20 = .ok (.sipush 600, 3) := by decide +kernel
theorem dX12_steal_23 : decode cX12_steal 23 = .ok (.if_icmp .le 5, 3) := by decide +kernel
theorem dX12_steal_26 : decode cX12_steal 26 = .ok (.iconst (-1), 1) := by decide +kernel
theorem dX12_steal_27 : decode cX12_steal 27 = .ok (.ireturn, 1) := by decide +kernel
theorem dX12_steal_28 : decode cX12_steal 28 = .ok (.aload_n 0, 1) := by decide +kernel
theorem dX12_steal_29 : decode cX12_steal 29 = .ok (.getfield 59, 3) := by decide +kernel
theorem dX12_steal_32 : decode cX12_steal 32 = .ok (.iload_n 1, 1) := by decide +kernel
theorem dX12_steal_33 : decode cX12_steal 33 = .ok (.invokevirtual 299, 3) := by decide +kernel
theorem dX12_steal_36 : decode cX12_steal 36 = .ok (.iconst 0, 1) := by decide +kernel
theorem dX12_steal_37 : decode cX12_steal 37 = .ok (.istore_n 3, 1) := by decide +kernel
theorem dX12_steal_38 : decode cX12_steal 38 = .ok (.iload_n 3, 1) := by decide +kernel
theorem dX12_steal_39 : decode cX12_steal 39 = .ok (.aload_n 0, 1) := by decide +kernel
theorem dX12_steal_40 : decode cX12_steal 40 = .ok (.getfield 40, 3) := by decide +kernel
theorem dX12_steal_43 : decode cX12_steal 43 = .ok (.getfield 198, 3) := by decide +kernel
theorem dX12_steal_46 : decode cX12_steal 46 = .ok (.iload_n 1, 1) := by decide +kernel
theorem dX12_steal_47 : decode cX12_steal 47 = .ok (.iaload, 1) := by decide +kernel
theorem dX12_steal_48 : decode cX12_steal 48 = .ok (.if_icmp .gt 41, 3) := by decide +kernel
theorem dX12_steal_51 : decode cX12_steal 51 = .ok (.aload_n 0, 1) := by decide +kernel
theorem dX12_steal_52 : decode cX12_steal 52 = .ok (.getfield 59, 3) := by decide +kernel
theorem dX12_steal_55 : decode cX12_steal 55 = .ok (.aload_n 0, 1) := by decide +kernel
theorem dX12_steal_56 : decode cX12_steal 56 = .ok (.getfield 40, 3) := by decide +kernel
theorem dX12_steal_59 : decode cX12_steal 59 = .ok (.getfield 198, 3) := by decide +kernel
theorem dX12_steal_62 : decode cX12_steal 62 = .ok (.iload_n 1, 1) := by decide +kernel
theorem dX12_steal_63 : decode cX12_steal 63 = .ok (.iaload, 1) := by decide +kernel
theorem dX12_steal_64 : decode cX12_steal 64 = .ok (.iload_n 3, 1) := by decide +kernel
theorem dX12_steal_65 : decode cX12_steal 65 = .ok (.isub, 1) := by decide +kernel
theorem dX12_steal_66 : decode cX12_steal 66 = .ok (.aload_n 0, 1) := by decide +kernel
theorem dX12_steal_67 : decode cX12_steal 67 = .ok (.getfield 19, 3) := by decide +kernel
theorem dX12_steal_70 : decode cX12_steal 70 = .ok (.getfield 248, 3) := by decide +kernel
theorem dX12_steal_73 : decode cX12_steal 73 = .ok (.iload_n 2, 1) := by decide +kernel
theorem dX12_steal_74 : decode cX12_steal 74 = .ok (.invokevirtual 308, 3) := by decide +kernel
theorem dX12_steal_77 : decode cX12_steal 77 = .ok (.iconst (-1), 1) := by decide +kernel
theorem dX12_steal_78 : decode cX12_steal 78 = .ok (.if_icmp .eq 5, 3) := by decide +kernel
theorem dX12_steal_81 : decode cX12_steal 81 = .ok (.iload_n 3, 1) := by decide +kernel
theorem dX12_steal_82 : decode cX12_steal 82 = .ok (.ireturn, 1) := by decide +kernel
theorem dX12_steal_83 : decode cX12_steal 83 = .ok (.iinc 3 1, 3) := by decide +kernel
theorem dX12_steal_86 : decode cX12_steal 86 = .ok (.goto (-48), 3) := by decide +kernel
theorem dX12_steal_89 : decode cX12_steal 89 = .ok (.iconst (-1), 1) := by decide +kernel
theorem dX12_steal_90 : decode cX12_steal 90 = .ok (.ireturn, 1) := by decide +kernel
theorem dX12_law_0 : decode cX12_law 0 = .ok (.iload_n 1, 1) := by decide +kernel
theorem dX12_law_1 : decode cX12_law 1 = .ok (.ifCond .lt 38, 3) := by decide +kernel
theorem dX12_law_4 : decode cX12_law 4 = .ok (.iload_n 1, 1) := by decide +kernel
theorem dX12_law_5 : decode cX12_law 5 = .ok (.iconst 1, 1) := by decide +kernel
theorem dX12_law_6 : decode cX12_law 6 = .ok (.aload_n 0, 1) := by decide +kernel
theorem dX12_law_7 : decode cX12_law 7 = .ok (.getfield 19, 3) := by decide +kernel
theorem dX12_law_10 : decode cX12_law 10 = .ok (.getfield 238, 3) := by decide +kernel
theorem dX12_law_13 : decode cX12_law 13 = .ok (.ishl, 1) := by decide +kernel
theorem dX12_law_14 : decode cX12_law 14 = .ok (.if_icmp .ge 25, 3) := by decide +kernel
theorem dX12_law_17 : decode cX12_law 17 = .ok (.iconst 1, 1) := by decide +kernel
theorem dX12_law_18 : decode cX12_law 18 = .ok (.bipush 60, 2) := by decide +kernel
theorem dX12_law_20 : decode cX12_law 20 = .ok (.iload_n 2, 1) := by decide +kernel
theorem dX12_law_21 : decode cX12_law 21 = .ok (.invokestatic 268, 3) := by decide +kernel
theorem dX12_law_24 : decode cX12_law 24 = .ok (.ifCond .eq 15, 3) := by decide +kernel
theorem dX12_law_27 : decode cX12_law 27 = .ok (.iload_n 1, 1) := by decide +kernel
theorem dX12_law_28 : decode cX12_law 28 = .ok (.aload_n 0, 1) := by decide +kernel
theorem dX12_law_29 : decode cX12_law 29 = .ok (.getfield 40, 3) := by decide +kernel
theorem dX12_law_32 : decode cX12_law 32 = .ok (.getfield 225, 3) := by decide +kernel
theorem dX12_law_35 : decode cX12_law 35 = .ok (.iand, 1) := by decide +kernel
theorem dX12_law_36 : decode cX12_law 36 = .ok (.ifCond .eq 5, 3) := by decide +kernel
theorem dX12_law_39 : decode cX12_law 39 = .ok (.iconst (-1), 1) := by decide +kernel
theorem dX12_law_40 : decode cX12_law 40 = .ok (.ireturn, 1) := by decide +kernel
theorem dX12_law_41 : decode cX12_law 41 = .ok (.iconst 1, 1) := by decide +kernel
theorem dX12_law_42 : decode cX12_law 42 = .ok (.istore_n 3, 1) := by decide +kernel
theorem dX12_law_43 : decode cX12_law 43 = .ok (.iconst 0, 1) := by decide +kernel
theorem dX12_law_44 : decode cX12_law 44 = .ok (.istore 4, 2) := by decide +kernel
theorem dX12_law_46 : decode cX12_law 46 = .ok (.iload 4, 2) := by decide +kernel
theorem dX12_law_48 : decode cX12_law 48 = .ok (.aload_n 0, 1) := by decide +kernel
theorem dX12_law_49 : decode cX12_law 49 = .ok (.getfield 19, 3) := by decide +kernel
theorem dX12_law_52 : decode cX12_law 52 = .ok (.getfield 238, 3) := by decide +kernel
theorem dX12_law_55 : decode cX12_law 55 = .ok (.if_icmp .ge 28, 3) := by decide +kernel
theorem dX12_law_58 : decode cX12_law 58 = .ok (.iload_n 1, 1) := by decide +kernel
theorem dX12_law_59 : decode cX12_law 59 = .ok (.iload 4, 2) := by decide +kernel
theorem dX12_law_61 : decode cX12_law 61 = .ok (.ishr, 1) := by decide +kernel
theorem dX12_law_62 : decode cX12_law 62 = .ok (.iconst 1, 1) := by decide +kernel
theorem dX12_law_63 : decode cX12_law 63 = .ok (.iand, 1) := by decide +kernel
theorem dX12_law_64 : decode cX12_law 64 = .ok (.iconst 1, 1) := by decide +kernel
theorem dX12_law_65 : decode cX12_law 65 = .ok (.if_icmp .ne 12, 3) := by decide +kernel
theorem dX12_law_68 : decode cX12_law 68 = .ok (.aload_n 0, 1) := by decide +kernel
theorem dX12_law_69 : decode cX12_law 69 = .ok (.iload 4, 2) := by decide +kernel
theorem dX12_law_71 : decode cX12_law 71 = .ok (.iload_n 2, 1) := by decide +kernel
theorem dX12_law_72 : decode cX12_law 72 = .ok (.iload_n 3, 1) := by decide +kernel
theorem dX12_law_73 : decode cX12_law 73 = .ok (.invokevirtual 335, 3) := by decide +kernel
theorem dX12_law_76 : decode cX12_law 76 = .ok (.istore_n 3, 1) := by decide +kernel
theorem dX12_law_77 : decode cX12_law 77 = .ok (.iinc 4 1, 3) := by decide +kernel
theorem dX12_law_80 : decode cX12_law 80 = .ok (.goto (-34), 3) := by decide +kernel
theorem dX12_law_83 : decode cX12_law 83 = .ok (.iload_n 3, 1) := by decide +kernel
theorem dX12_law_84 : decode cX12_law 84 = .ok (.bipush 9, 2) := by decide +kernel
theorem dX12_law_86 : decode cX12_law 86 = .ok (.if_icmp .gt 7, 3) := by decide +kernel
theorem dX12_law_89 : decode cX12_law 89 = .ok (.iload_n 3, 1) := by decide +kernel
theorem dX12_law_90 : decode cX12_law 90 = .ok (.goto 4, 3) := by decide +kernel
theorem dX12_law_93 : decode cX12_law 93 = .ok (.iconst (-1), 1) := by decide +kernel
theorem dX12_law_94 : decode cX12_law 94 = .ok (.ireturn, 1) := by decide +kernel
theorem dX12_leastGrace_0 : decode cX12_leastGrace 0 = .ok (.aload_n 0, 1) := by decide +kernel
theorem dX12_leastGrace_1 : decode cX12_leastGrace 1 = .ok (.getfield 59, 3) := by decide +kernel
theorem dX12_leastGrace_4 : decode cX12_leastGrace 4 = .ok (.iload_n 1, 1) := by decide +kernel
theorem dX12_leastGrace_5 : decode cX12_leastGrace 5 = .ok (.invokevirtual 299, 3) := by decide +kernel
theorem dX12_leastGrace_8 : decode cX12_leastGrace 8 = .ok (.aload_n 0, 1) := by decide +kernel
theorem dX12_leastGrace_9 : decode cX12_leastGrace 9 = .ok (.getfield 40, 3) := by decide +kernel
theorem dX12_leastGrace_12 : decode cX12_leastGrace 12 = .ok (.getfield 213, 3) := by decide +kernel
theorem dX12_leastGrace_15 : decode cX12_leastGrace 15 = .ok (.aload_n 0, 1) := by decide +kernel
theorem dX12_leastGrace_16 : decode cX12_leastGrace 16 = .ok (.getfield 40, 3) := by decide +kernel
theorem dX12_leastGrace_19 : decode cX12_leastGrace 19 = .ok (.iload_n 2, 1) := by decide +kernel
theorem dX12_leastGrace_20 : decode cX12_leastGrace 20 = .ok (.invokevirtual 283, 3) := by decide +kernel
theorem dX12_leastGrace_23 : decode cX12_leastGrace 23 = .ok (.iadd, 1) := by decide +kernel
theorem dX12_leastGrace_24 : decode cX12_leastGrace 24 = .ok (.istore 4, 2) := by decide +kernel
theorem dX12_leastGrace_26 : decode cX12_leastGrace 26 = .ok (.iload_n 3, 1) := by decide +kernel
theorem dX12_leastGrace_27 : decode cX12_leastGrace 27 = .ok (.istore 5, 2) := by decide +kernel
theorem dX12_leastGrace_29 : decode cX12_leastGrace 29 = .ok (.iload 5, 2) := by decide +kernel
theorem dX12_leastGrace_31 : decode cX12_leastGrace 31 = .ok (.bipush 9, 2) := by decide +kernel
theorem dX12_leastGrace_33 : decode cX12_leastGrace 33 = .ok (.if_icmp .gt 33, 3) := by decide +kernel
theorem dX12_leastGrace_36 : decode cX12_leastGrace 36 = .ok (.aload_n 0, 1) := by decide +kernel
theorem dX12_leastGrace_37 : decode cX12_leastGrace 37 = .ok (.getfield 59, 3) := by decide +kernel
theorem dX12_leastGrace_40 : decode cX12_leastGrace 40 = .ok (.aload_n 0, 1) := by decide +kernel
theorem dX12_leastGrace_41 : decode cX12_leastGrace 41 = .ok (.getfield 40, 3) := by decide +kernel
theorem dX12_leastGrace_44 : decode cX12_leastGrace 44 = .ok (.getfield 198, 3) := by decide +kernel
theorem dX12_leastGrace_47 : decode cX12_leastGrace 47 = .ok (.iload_n 1, 1) := by decide +kernel
theorem dX12_leastGrace_48 : decode cX12_leastGrace 48 = .ok (.iaload, 1) := by decide +kernel
theorem dX12_leastGrace_49 : decode cX12_leastGrace 49 = .ok (.iload 5, 2) := by decide +kernel
theorem dX12_leastGrace_51 : decode cX12_leastGrace 51 = .ok (.iload 4, 2) := by decide +kernel
theorem dX12_leastGrace_53 : decode cX12_leastGrace 53 = .ok (.invokevirtual 308, 3) := by decide +kernel
theorem dX12_leastGrace_56 : decode cX12_leastGrace 56 = .ok (.iconst (-1), 1) := by decide +kernel
theorem dX12_leastGrace_57 : decode cX12_leastGrace 57 = .ok (.if_icmp .eq 9, 3) := by decide +kernel
theorem dX12_leastGrace_60 : decode cX12_leastGrace 60 = .ok (.iinc 5 1, 3) := by decide +kernel
theorem dX12_leastGrace_63 : decode cX12_leastGrace 63 = .ok (.goto (-34), 3) := by decide +kernel
theorem dX12_leastGrace_66 : decode cX12_leastGrace 66 = .ok (.iload 5, 2) := by decide +kernel
theorem dX12_leastGrace_68 : decode cX12_leastGrace 68 = .ok (.ireturn, 1) := by decide +kernel
theorem dX12_together_0 : decode cX12_together 0 = .ok (.aload_n 0, 1) := by decide +kernel
theorem dX12_together_1 : decode cX12_together 1 = .ok (.getfield 19, 3) := by decide +kernel
theorem dX12_together_4 : decode cX12_together 4 = .ok (.iload_n 1, 1) := by decide +kernel
theorem dX12_together_5 : decode cX12_together 5 = .ok (.invokevirtual 181, 3) := by decide +kernel
theorem dX12_together_8 : decode cX12_together 8 = .ok (.ifCond .eq 13, 3) := by decide +kernel
theorem dX12_together_11 : decode cX12_together 11 = .ok (.iconst 1, 1) := by decide +kernel
theorem dX12_together_12 : decode cX12_together 12 = .ok (.bipush 60, 2) := by decide +kernel
theorem dX12_together_14 : decode cX12_together 14 = .ok (.iload_n 2, 1) := by decide +kernel
theorem dX12_together_15 : decode cX12_together 15 = .ok (.invokestatic 268, 3) := by decide +kernel
theorem dX12_together_18 : decode cX12_together 18 = .ok (.ifCond .ne 5, 3) := by decide +kernel
theorem dX12_together_21 : decode cX12_together 21 = .ok (.iconst (-1), 1) := by decide +kernel
theorem dX12_together_22 : decode cX12_together 22 = .ok (.ireturn, 1) := by decide +kernel
theorem dX12_together_23 : decode cX12_together 23 = .ok (.iconst 0, 1) := by decide +kernel
theorem dX12_together_24 : decode cX12_together 24 = .ok (.istore_n 3, 1) := by decide +kernel
theorem dX12_together_25 : decode cX12_together 25 = .ok (.aload_n 0, 1) := by decide +kernel
theorem dX12_together_26 : decode cX12_together 26 = .ok (.getfield 40, 3) := by decide +kernel
theorem dX12_together_29 : decode cX12_together 29 = .ok (.getfield 213, 3) := by decide +kernel
theorem dX12_together_32 : decode cX12_together 32 = .ok (.aload_n 0, 1) := by decide +kernel
theorem dX12_together_33 : decode cX12_together 33 = .ok (.getfield 40, 3) := by decide +kernel
theorem dX12_together_36 : decode cX12_together 36 = .ok (.iload_n 2, 1) := by decide +kernel
theorem dX12_together_37 : decode cX12_together 37 = .ok (.invokevirtual 283, 3) := by decide +kernel
theorem dX12_together_40 : decode cX12_together 40 = .ok (.iadd, 1) := by decide +kernel
theorem dX12_together_41 : decode cX12_together 41 = .ok (.istore 4, 2) := by decide +kernel
theorem dX12_together_43 : decode cX12_together 43 = .ok (.aload_n 0, 1) := by decide +kernel
theorem dX12_together_44 : decode cX12_together 44 = .ok (.getfield 40, 3) := by decide +kernel
theorem dX12_together_47 : decode cX12_together 47 = .ok (.getfield 213, 3) := by decide +kernel
theorem dX12_together_50 : decode cX12_together 50 = .ok (.istore 5, 2) := by decide +kernel
theorem dX12_together_52 : decode cX12_together 52 = .ok (.iload 5, 2) := by decide +kernel
theorem dX12_together_54 : decode cX12_together 54 = .ok (.iload 4, 2) := by decide +kernel
theorem dX12_together_56 : decode cX12_together 56 = .ok (.if_icmp .ge 54, 3) := by decide +kernel
theorem dX12_together_59 : decode cX12_together 59 = .ok (.aload_n 0, 1) := by decide +kernel
theorem dX12_together_60 : decode cX12_together 60 = .ok (.getfield 19, 3) := by decide +kernel
theorem dX12_together_63 : decode cX12_together 63 = .ok (.aload_n 0, 1) := by decide +kernel
theorem dX12_together_64 : decode cX12_together 64 = .ok (.getfield 19, 3) := by decide +kernel
theorem dX12_together_67 : decode cX12_together 67 = .ok (.getfield 186, 3) := by decide +kernel
theorem dX12_together_70 : decode cX12_together 70 = .ok (.iload_n 1, 1) := by decide +kernel
theorem dX12_together_71 : decode cX12_together 71 = .ok (.iaload, 1) := by decide +kernel
theorem dX12_together_72 : decode cX12_together 72 = .ok (.iload 5, 2) := by decide +kernel
theorem dX12_together_74 : decode cX12_together 74 = .ok (.invokevirtual 338, 3) := by decide +kernel
theorem dX12_together_77 : decode cX12_together 77 = .ok (.ifCond .eq 27, 3) := by decide +kernel
theorem dX12_together_80 : decode cX12_together 80 = .ok (.aload_n 0, 1) := by decide +kernel
theorem dX12_together_81 : decode cX12_together 81 = .ok (.getfield 19, 3) := by decide +kernel
theorem dX12_together_84 : decode cX12_together 84 = .ok (.aload_n 0, 1) := by decide +kernel
theorem dX12_together_85 : decode cX12_together 85 = .ok (.getfield 19, 3) := by decide +kernel
theorem dX12_together_88 : decode cX12_together 88 = .ok (.getfield 189, 3) := by decide +kernel
theorem dX12_together_91 : decode cX12_together 91 = .ok (.iload_n 1, 1) := by decide +kernel
theorem dX12_together_92 : decode cX12_together 92 = .ok (.iaload, 1) := by decide +kernel
theorem dX12_together_93 : decode cX12_together 93 = .ok (.iload 5, 2) := by decide +kernel
theorem dX12_together_95 : decode cX12_together 95 = .ok (.invokevirtual 338, 3) := by decide +kernel
theorem dX12_together_98 : decode cX12_together 98 = .ok (.ifCond .eq 6, 3) := by decide +kernel
theorem dX12_together_101 : decode cX12_together 101 = .ok (.iinc 3 1, 3) := by decide +kernel
theorem dX12_together_104 : decode cX12_together 104 = .ok (.iinc 5 1, 3) := by decide +kernel
theorem dX12_together_107 : decode cX12_together 107 = .ok (.goto (-55), 3) := by decide +kernel
theorem dX12_together_110 : decode cX12_together 110 = .ok (.iload_n 3, 1) := by decide +kernel
theorem dX12_together_111 : decode cX12_together 111 = .ok (.ireturn, 1) := by decide +kernel
theorem dX12_parts_0 : decode cX12_parts 0 = .ok (.aload_n 0, 1) := by decide +kernel
theorem dX12_parts_1 : decode cX12_parts 1 = .ok (.getfield 19, 3) := by decide +kernel
theorem dX12_parts_4 : decode cX12_parts 4 = .ok (.iload_n 1, 1) := by decide +kernel
theorem dX12_parts_5 : decode cX12_parts 5 = .ok (.invokevirtual 181, 3) := by decide +kernel
theorem dX12_parts_8 : decode cX12_parts 8 = .ok (.ifCond .eq 28, 3) := by decide +kernel
theorem dX12_parts_11 : decode cX12_parts 11 = .ok (.aload_n 0, 1) := by decide +kernel
theorem dX12_parts_12 : decode cX12_parts 12 = .ok (.getfield 19, 3) := by decide +kernel
theorem dX12_parts_15 : decode cX12_parts 15 = .ok (.getfield 241, 3) := by decide +kernel
theorem dX12_parts_18 : decode cX12_parts 18 = .ok (.iload_n 1, 1) := by decide +kernel
theorem dX12_parts_19 : decode cX12_parts 19 = .ok (.aload_n 0, 1) := by decide +kernel
theorem dX12_parts_20 : decode cX12_parts 20 = .ok (.getfield 19, 3) := by decide +kernel
theorem dX12_parts_23 : decode cX12_parts 23 = .ok (.getfield 241, 3) := by decide +kernel
theorem dX12_parts_26 : decode cX12_parts 26 = .ok (.iload_n 1, 1) := by decide +kernel
theorem dX12_parts_27 : decode cX12_parts 27 = .ok (.invokevirtual 342, 3) := by decide +kernel
theorem dX12_parts_30 : decode cX12_parts 30 = .ok (.invokevirtual 345, 3) := by decide +kernel
theorem dX12_parts_33 : decode cX12_parts 33 = .ok (.goto 4, 3) := by decide +kernel
theorem dX12_parts_36 : decode cX12_parts 36 = .ok (.iconst (-1), 1) := by decide +kernel
theorem dX12_parts_37 : decode cX12_parts 37 = .ok (.ireturn, 1) := by decide +kernel
theorem dX12_parted_0 : decode cX12_parted 0 = .ok (.aload_n 0, 1) := by decide +kernel
theorem dX12_parted_1 : decode cX12_parted 1 = .ok (.getfield 19, 3) := by decide +kernel
theorem dX12_parted_4 : decode cX12_parted 4 = .ok (.iload_n 1, 1) := by decide +kernel
theorem dX12_parted_5 : decode cX12_parted 5 = .ok (.invokevirtual 181, 3) := by decide +kernel
theorem dX12_parted_8 : decode cX12_parted 8 = .ok (.ifCond .eq 17, 3) := by decide +kernel
theorem dX12_parted_11 : decode cX12_parted 11 = .ok (.aload_n 0, 1) := by decide +kernel
theorem dX12_parted_12 : decode cX12_parted 12 = .ok (.getfield 19, 3) := by decide +kernel
theorem dX12_parted_15 : decode cX12_parted 15 = .ok (.getfield 241, 3) := by decide +kernel
theorem dX12_parted_18 : decode cX12_parted 18 = .ok (.iload_n 1, 1) := by decide +kernel
theorem dX12_parted_19 : decode cX12_parted 19 = .ok (.invokevirtual 342, 3) := by decide +kernel
theorem dX12_parted_22 : decode cX12_parted 22 = .ok (.goto 4, 3) := by decide +kernel
theorem dX12_parted_25 : decode cX12_parted 25 = .ok (.iconst (-1), 1) := by decide +kernel
theorem dX12_parted_26 : decode cX12_parted 26 = .ok (.ireturn, 1) := by decide +kernel
theorem dX12_good_0 : decode cX12_good 0 = .ok (.iload_n 1, 1) := by decide +kernel
theorem dX12_good_1 : decode cX12_good 1 = .ok (.ifCond .lt 17, 3) := by decide +kernel
theorem dX12_good_4 : decode cX12_good 4 = .ok (.iload_n 1, 1) := by decide +kernel
theorem dX12_good_5 : decode cX12_good 5 = .ok (.aload_n 0, 1) := by decide +kernel
theorem dX12_good_6 : decode cX12_good 6 = .ok (.getfield 19, 3) := by decide +kernel
theorem dX12_good_9 : decode cX12_good 9 = .ok (.getfield 241, 3) := by decide +kernel
theorem dX12_good_12 : decode cX12_good 12 = .ok (.getfield 245, 3) := by decide +kernel
theorem dX12_good_15 : decode cX12_good 15 = .ok (.if_icmp .lt 5, 3) := by decide +kernel
theorem dX12_good_18 : decode cX12_good 18 = .ok (.iconst (-1), 1) := by decide +kernel
theorem dX12_good_19 : decode cX12_good 19 = .ok (.ireturn, 1) := by decide +kernel
theorem dX12_good_20 : decode cX12_good 20 = .ok (.iload_n 2, 1) := by decide +kernel
theorem dX12_good_21 : decode cX12_good 21 = .ok (.tableswitch 66 0 2 #[27, 40, 53], 27) := by decide +kernel
theorem dX12_good_48 : decode cX12_good 48 = .ok (.aload_n 0, 1) := by decide +kernel
theorem dX12_good_49 : decode cX12_good 49 = .ok (.getfield 19, 3) := by decide +kernel
theorem dX12_good_52 : decode cX12_good 52 = .ok (.getfield 241, 3) := by decide +kernel
theorem dX12_good_55 : decode cX12_good 55 = .ok (.getfield 348, 3) := by decide +kernel
theorem dX12_good_58 : decode cX12_good 58 = .ok (.iload_n 1, 1) := by decide +kernel
theorem dX12_good_59 : decode cX12_good 59 = .ok (.iaload, 1) := by decide +kernel
theorem dX12_good_60 : decode cX12_good 60 = .ok (.ireturn, 1) := by decide +kernel
theorem dX12_good_61 : decode cX12_good 61 = .ok (.aload_n 0, 1) := by decide +kernel
theorem dX12_good_62 : decode cX12_good 62 = .ok (.getfield 19, 3) := by decide +kernel
theorem dX12_good_65 : decode cX12_good 65 = .ok (.getfield 241, 3) := by decide +kernel
theorem dX12_good_68 : decode cX12_good 68 = .ok (.getfield 351, 3) := by decide +kernel
theorem dX12_good_71 : decode cX12_good 71 = .ok (.iload_n 1, 1) := by decide +kernel
theorem dX12_good_72 : decode cX12_good 72 = .ok (.iaload, 1) := by decide +kernel
theorem dX12_good_73 : decode cX12_good 73 = .ok (.ireturn, 1) := by decide +kernel
theorem dX12_good_74 : decode cX12_good 74 = .ok (.aload_n 0, 1) := by decide +kernel
theorem dX12_good_75 : decode cX12_good 75 = .ok (.getfield 19, 3) := by decide +kernel
theorem dX12_good_78 : decode cX12_good 78 = .ok (.getfield 241, 3) := by decide +kernel
theorem dX12_good_81 : decode cX12_good 81 = .ok (.getfield 354, 3) := by decide +kernel
theorem dX12_good_84 : decode cX12_good 84 = .ok (.iload_n 1, 1) := by decide +kernel
theorem dX12_good_85 : decode cX12_good 85 = .ok (.iaload, 1) := by decide +kernel
theorem dX12_good_86 : decode cX12_good 86 = .ok (.ireturn, 1) := by decide +kernel
theorem dX12_good_87 : decode cX12_good 87 = .ok (.iconst (-1), 1) := by decide +kernel
theorem dX12_good_88 : decode cX12_good 88 = .ok (.ireturn, 1) := by decide +kernel
theorem dX12_rings_0 : decode cX12_rings 0 = .ok (.aload_n 0, 1) := by decide +kernel
theorem dX12_rings_1 : decode cX12_rings 1 = .ok (.getfield 10, 3) := by decide +kernel
theorem dX12_rings_4 : decode cX12_rings 4 = .ok (.getfield 120, 3) := by decide +kernel
theorem dX12_rings_7 : decode cX12_rings 7 = .ok (.iconst 1, 1) := by decide +kernel
theorem dX12_rings_8 : decode cX12_rings 8 = .ok (.if_icmp .ne 13, 3) := by decide +kernel
theorem dX12_rings_11 : decode cX12_rings 11 = .ok (.aload_n 0, 1) := by decide +kernel
theorem dX12_rings_12 : decode cX12_rings 12 = .ok (.getfield 10, 3) := by decide +kernel
theorem dX12_rings_15 : decode cX12_rings 15 = .ok (.invokevirtual 357, 3) := by decide +kernel
theorem dX12_rings_18 : decode cX12_rings 18 = .ok (.goto 4, 3) := by decide +kernel
theorem dX12_rings_21 : decode cX12_rings 21 = .ok (.iconst (-1), 1) := by decide +kernel
theorem dX12_rings_22 : decode cX12_rings 22 = .ok (.istore_n 2, 1) := by decide +kernel
theorem dX12_rings_23 : decode cX12_rings 23 = .ok (.aload_n 0, 1) := by decide +kernel
theorem dX12_rings_24 : decode cX12_rings 24 = .ok (.getfield 10, 3) := by decide +kernel
theorem dX12_rings_27 : decode cX12_rings 27 = .ok (.iconst 0, 1) := by decide +kernel
theorem dX12_rings_28 : decode cX12_rings 28 = .ok (.putfield 120, 3) := by decide +kernel
theorem dX12_rings_31 : decode cX12_rings 31 = .ok (.iload_n 2, 1) := by decide +kernel
theorem dX12_rings_32 : decode cX12_rings 32 = .ok (.iconst (-1), 1) := by decide +kernel
theorem dX12_rings_33 : decode cX12_rings 33 = .ok (.if_icmp .eq 20, 3) := by decide +kernel
theorem dX12_rings_36 : decode cX12_rings 36 = .ok (.aload_n 0, 1) := by decide +kernel
theorem dX12_rings_37 : decode cX12_rings 37 = .ok (.iload_n 1, 1) := by decide +kernel
theorem dX12_rings_38 : decode cX12_rings 38 = .ok (.invokevirtual 293, 3) := by decide +kernel
theorem dX12_rings_41 : decode cX12_rings 41 = .ok (.ifCond .eq 12, 3) := by decide +kernel
theorem dX12_rings_44 : decode cX12_rings 44 = .ok (.aload_n 0, 1) := by decide +kernel
theorem dX12_rings_45 : decode cX12_rings 45 = .ok (.iload_n 1, 1) := by decide +kernel
theorem dX12_rings_46 : decode cX12_rings 46 = .ok (.iload_n 2, 1) := by decide +kernel
theorem dX12_rings_47 : decode cX12_rings 47 = .ok (.invokevirtual 360, 3) := by decide +kernel
theorem dX12_rings_50 : decode cX12_rings 50 = .ok (.goto 4, 3) := by decide +kernel
theorem dX12_rings_53 : decode cX12_rings 53 = .ok (.iconst (-1), 1) := by decide +kernel
theorem dX12_rings_54 : decode cX12_rings 54 = .ok (.ireturn, 1) := by decide +kernel
theorem dX12_ringBits_0 : decode cX12_ringBits 0 = .ok (.iconst 0, 1) := by decide +kernel
theorem dX12_ringBits_1 : decode cX12_ringBits 1 = .ok (.istore_n 3, 1) := by decide +kernel
theorem dX12_ringBits_2 : decode cX12_ringBits 2 = .ok (.aload_n 0, 1) := by decide +kernel
theorem dX12_ringBits_3 : decode cX12_ringBits 3 = .ok (.getfield 19, 3) := by decide +kernel
theorem dX12_ringBits_6 : decode cX12_ringBits 6 = .ok (.getfield 192, 3) := by decide +kernel
theorem dX12_ringBits_9 : decode cX12_ringBits 9 = .ok (.iload_n 1, 1) := by decide +kernel
theorem dX12_ringBits_10 : decode cX12_ringBits 10 = .ok (.iaload, 1) := by decide +kernel
theorem dX12_ringBits_11 : decode cX12_ringBits 11 = .ok (.istore 4, 2) := by decide +kernel
theorem dX12_ringBits_13 : decode cX12_ringBits 13 = .ok (.iconst 0, 1) := by decide +kernel
theorem dX12_ringBits_14 : decode cX12_ringBits 14 = .ok (.istore 5, 2) := by decide +kernel
theorem dX12_ringBits_16 : decode cX12_ringBits 16 = .ok (.iload 5, 2) := by decide +kernel
theorem dX12_ringBits_18 : decode cX12_ringBits 18 = .ok (.bipush 24, 2) := by decide +kernel
theorem dX12_ringBits_20 : decode cX12_ringBits 20 = .ok (.if_icmp .gt 66, 3) := by decide +kernel
theorem dX12_ringBits_23 : decode cX12_ringBits 23 = .ok (.iload 5, 2) := by decide +kernel
theorem dX12_ringBits_25 : decode cX12_ringBits 25 = .ok (.aload_n 0, 1) := by decide +kernel
theorem dX12_ringBits_26 : decode cX12_ringBits 26 = .ok (.getfield 40, 3) := by decide +kernel
theorem dX12_ringBits_29 : decode cX12_ringBits 29 = .ok (.getfield 213, 3) := by decide +kernel
theorem dX12_ringBits_32 : decode cX12_ringBits 32 = .ok (.if_icmp .gt 54, 3) := by decide +kernel
theorem dX12_ringBits_35 : decode cX12_ringBits 35 = .ok (.iload 5, 2) := by decide +kernel
theorem dX12_ringBits_37 : decode cX12_ringBits 37 = .ok (.ifCond .le 30, 3) := by decide +kernel
theorem dX12_ringBits_40 : decode cX12_ringBits 40 = .ok (.iconst 0, 1) := by decide +kernel
theorem dX12_ringBits_41 : decode cX12_ringBits 41 = .ok (.iload 4, 2) := by decide +kernel
theorem dX12_ringBits_43 : decode cX12_ringBits 43 = .ok (.aload_n 0, 1) := by decide +kernel
theorem dX12_ringBits_44 : decode cX12_ringBits 44 = .ok (.getfield 40, 3) := by decide +kernel
theorem dX12_ringBits_47 : decode cX12_ringBits 47 = .ok (.iload_n 1, 1) := by decide +kernel
theorem dX12_ringBits_48 : decode cX12_ringBits 48 = .ok (.aload_n 0, 1) := by decide +kernel
theorem dX12_ringBits_49 : decode cX12_ringBits 49 = .ok (.getfield 40, 3) := by decide +kernel
theorem dX12_ringBits_52 : decode cX12_ringBits 52 = .ok (.getfield 213, 3) := by decide +kernel
theorem dX12_ringBits_55 : decode cX12_ringBits 55 = .ok (.iload 5, 2) := by decide +kernel
theorem dX12_ringBits_57 : decode cX12_ringBits 57 = .ok (.isub, 1) := by decide +kernel
theorem dX12_ringBits_58 : decode cX12_ringBits 58 = .ok (.invokevirtual 216, 3) := by decide +kernel
theorem dX12_ringBits_61 : decode cX12_ringBits 61 = .ok (.isub, 1) := by decide +kernel
theorem dX12_ringBits_62 : decode cX12_ringBits 62 = .ok (.invokestatic 363, 3) := by decide +kernel
theorem dX12_ringBits_65 : decode cX12_ringBits 65 = .ok (.istore 4, 2) := by decide +kernel
theorem dX12_ringBits_67 : decode cX12_ringBits 67 = .ok (.iload 4, 2) := by decide +kernel
theorem dX12_ringBits_69 : decode cX12_ringBits 69 = .ok (.iload_n 2, 1) := by decide +kernel
theorem dX12_ringBits_70 : decode cX12_ringBits 70 = .ok (.if_icmp .ne 10, 3) := by decide +kernel
theorem dX12_ringBits_73 : decode cX12_ringBits 73 = .ok (.iload_n 3, 1) := by decide +kernel
theorem dX12_ringBits_74 : decode cX12_ringBits 74 = .ok (.iconst 1, 1) := by decide +kernel
theorem dX12_ringBits_75 : decode cX12_ringBits 75 = .ok (.iload 5, 2) := by decide +kernel
theorem dX12_ringBits_77 : decode cX12_ringBits 77 = .ok (.ishl, 1) := by decide +kernel
theorem dX12_ringBits_78 : decode cX12_ringBits 78 = .ok (.ior, 1) := by decide +kernel
theorem dX12_ringBits_79 : decode cX12_ringBits 79 = .ok (.istore_n 3, 1) := by decide +kernel
theorem dX12_ringBits_80 : decode cX12_ringBits 80 = .ok (.iinc 5 1, 3) := by decide +kernel
theorem dX12_ringBits_83 : decode cX12_ringBits 83 = .ok (.goto (-67), 3) := by decide +kernel
theorem dX12_ringBits_86 : decode cX12_ringBits 86 = .ok (.iload_n 3, 1) := by decide +kernel
theorem dX12_ringBits_87 : decode cX12_ringBits 87 = .ok (.ireturn, 1) := by decide +kernel
theorem dX12_banns_0 : decode cX12_banns 0 = .ok (.aload_n 0, 1) := by decide +kernel
theorem dX12_banns_1 : decode cX12_banns 1 = .ok (.getfield 19, 3) := by decide +kernel
theorem dX12_banns_4 : decode cX12_banns 4 = .ok (.iload_n 1, 1) := by decide +kernel
theorem dX12_banns_5 : decode cX12_banns 5 = .ok (.invokevirtual 181, 3) := by decide +kernel
theorem dX12_banns_8 : decode cX12_banns 8 = .ok (.ifCond .ne 5, 3) := by decide +kernel
theorem dX12_banns_11 : decode cX12_banns 11 = .ok (.iconst (-1), 1) := by decide +kernel
theorem dX12_banns_12 : decode cX12_banns 12 = .ok (.ireturn, 1) := by decide +kernel
theorem dX12_banns_13 : decode cX12_banns 13 = .ok (.aload_n 0, 1) := by decide +kernel
theorem dX12_banns_14 : decode cX12_banns 14 = .ok (.getfield 108, 3) := by decide +kernel
theorem dX12_banns_17 : decode cX12_banns 17 = .ok (.iconst 0, 1) := by decide +kernel
theorem dX12_banns_18 : decode cX12_banns 18 = .ok (.invokevirtual 368, 3) := by decide +kernel
theorem dX12_banns_21 : decode cX12_banns 21 = .ok (.aload_n 0, 1) := by decide +kernel
theorem dX12_banns_22 : decode cX12_banns 22 = .ok (.aload_n 0, 1) := by decide +kernel
theorem dX12_banns_23 : decode cX12_banns 23 = .ok (.getfield 19, 3) := by decide +kernel
theorem dX12_banns_26 : decode cX12_banns 26 = .ok (.getfield 371, 3) := by decide +kernel
theorem dX12_banns_29 : decode cX12_banns 29 = .ok (.aload_n 0, 1) := by decide +kernel
theorem dX12_banns_30 : decode cX12_banns 30 = .ok (.getfield 19, 3) := by decide +kernel
theorem dX12_banns_33 : decode cX12_banns 33 = .ok (.getfield 186, 3) := by decide +kernel
theorem dX12_banns_36 : decode cX12_banns 36 = .ok (.iload_n 1, 1) := by decide +kernel
theorem dX12_banns_37 : decode cX12_banns 37 = .ok (.iaload, 1) := by decide +kernel
theorem dX12_banns_38 : decode cX12_banns 38 = .ok (.laload, 1) := by decide +kernel
theorem dX12_banns_39 : decode cX12_banns 39 = .ok (.invokevirtual 375, 3) := by decide +kernel
theorem dX12_banns_42 : decode cX12_banns 42 = .ok (.aload_n 0, 1) := by decide +kernel
theorem dX12_banns_43 : decode cX12_banns 43 = .ok (.getfield 108, 3) := by decide +kernel
theorem dX12_banns_46 : decode cX12_banns 46 = .ok (.ldc_w 379, 3) := by decide +kernel
theorem dX12_banns_49 : decode cX12_banns 49 = .ok (.invokevirtual 381, 3) := by decide +kernel
theorem dX12_banns_52 : decode cX12_banns 52 = .ok (.pop, 1) := by decide +kernel
theorem dX12_banns_53 : decode cX12_banns 53 = .ok (.aload_n 0, 1) := by decide +kernel
theorem dX12_banns_54 : decode cX12_banns 54 = .ok (.aload_n 0, 1) := by decide +kernel
theorem dX12_banns_55 : decode cX12_banns 55 = .ok (.getfield 19, 3) := by decide +kernel
theorem dX12_banns_58 : decode cX12_banns 58 = .ok (.getfield 371, 3) := by decide +kernel
theorem dX12_banns_61 : decode cX12_banns 61 = .ok (.aload_n 0, 1) := by decide +kernel
theorem dX12_banns_62 : decode cX12_banns 62 = .ok (.getfield 19, 3) := by decide +kernel
theorem dX12_banns_65 : decode cX12_banns 65 = .ok (.getfield 189, 3) := by decide +kernel
theorem dX12_banns_68 : decode cX12_banns 68 = .ok (.iload_n 1, 1) := by decide +kernel
theorem dX12_banns_69 : decode cX12_banns 69 = .ok (.iaload, 1) := by decide +kernel
theorem dX12_banns_70 : decode cX12_banns 70 = .ok (.laload, 1) := by decide +kernel
theorem dX12_banns_71 : decode cX12_banns 71 = .ok (.invokevirtual 375, 3) := by decide +kernel
theorem dX12_banns_74 : decode cX12_banns 74 = .ok (.aload_n 0, 1) := by decide +kernel
theorem dX12_banns_75 : decode cX12_banns 75 = .ok (.iload_n 1, 1) := by decide +kernel
theorem dX12_banns_76 : decode cX12_banns 76 = .ok (.invokevirtual 384, 3) := by decide +kernel
theorem dX12_banns_79 : decode cX12_banns 79 = .ok (.aload_n 0, 1) := by decide +kernel
theorem dX12_banns_80 : decode cX12_banns 80 = .ok (.getfield 108, 3) := by decide +kernel
theorem dX12_banns_83 : decode cX12_banns 83 = .ok (.invokevirtual 387, 3) := by decide +kernel
theorem dX12_banns_86 : decode cX12_banns 86 = .ok (.ireturn, 1) := by decide +kernel
theorem dX12_appendName_0 : decode cX12_appendName 0 = .ok (.bipush 6, 2) := by decide +kernel
theorem dX12_appendName_2 : decode cX12_appendName 2 = .ok (.istore_n 3, 1) := by decide +kernel
theorem dX12_appendName_3 : decode cX12_appendName 3 = .ok (.iload_n 3, 1) := by decide +kernel
theorem dX12_appendName_4 : decode cX12_appendName 4 = .ok (.ifCond .lt 41, 3) := by decide +kernel
theorem dX12_appendName_7 : decode cX12_appendName 7 = .ok (.lload_n 1, 1) := by decide +kernel
theorem dX12_appendName_8 : decode cX12_appendName 8 = .ok (.iload_n 3, 1) := by decide +kernel
theorem dX12_appendName_9 : decode cX12_appendName 9 = .ok (.iconst 5, 1) := by decide +kernel
theorem dX12_appendName_10 : decode cX12_appendName 10 = .ok (.imul, 1) := by decide +kernel
theorem dX12_appendName_11 : decode cX12_appendName 11 = .ok (.lshr, 1) := by decide +kernel
theorem dX12_appendName_12 : decode cX12_appendName 12 = .ok (.l2i, 1) := by decide +kernel
theorem dX12_appendName_13 : decode cX12_appendName 13 = .ok (.bipush 31, 2) := by decide +kernel
theorem dX12_appendName_15 : decode cX12_appendName 15 = .ok (.iand, 1) := by decide +kernel
theorem dX12_appendName_16 : decode cX12_appendName 16 = .ok (.istore 4, 2) := by decide +kernel
theorem dX12_appendName_18 : decode cX12_appendName 18 = .ok (.iload 4, 2) := by decide +kernel
theorem dX12_appendName_20 : decode cX12_appendName 20 = .ok (.ifCond .le 19, 3) := by decide +kernel
theorem dX12_appendName_23 : decode cX12_appendName 23 = .ok (.aload_n 0, 1) := by decide +kernel
theorem dX12_appendName_24 : decode cX12_appendName 24 = .ok (.getfield 108, 3) := by decide +kernel
theorem dX12_appendName_27 : decode cX12_appendName 27 = .ok (.iload 4, 2) := by decide +kernel
theorem dX12_appendName_29 : decode cX12_appendName 29 = .ok (.bipush 97, 2) := by decide +kernel
theorem dX12_appendName_31 : decode cX12_appendName 31 = .ok (.iadd, 1) := by decide +kernel
theorem dX12_appendName_32 : decode cX12_appendName 32 = .ok (.iconst 1, 1) := by decide +kernel
theorem dX12_appendName_33 : decode cX12_appendName 33 = .ok (.isub, 1) := by decide +kernel
theorem dX12_appendName_34 : decode cX12_appendName 34 = .ok (.i2c, 1) := by decide +kernel
theorem dX12_appendName_35 : decode cX12_appendName 35 = .ok (.invokevirtual 392, 3) := by decide +kernel
theorem dX12_appendName_38 : decode cX12_appendName 38 = .ok (.pop, 1) := by decide +kernel
theorem dX12_appendName_39 : decode cX12_appendName 39 = .ok (.iinc 3 (-1), 3) := by decide +kernel
theorem dX12_appendName_42 : decode cX12_appendName 42 = .ok (.goto (-39), 3) := by decide +kernel
theorem dX12_appendName_45 : decode cX12_appendName 45 = .ok (.return_, 1) := by decide +kernel
theorem dX12_appendTerm_0 : decode cX12_appendTerm 0 = .ok (.aload_n 0, 1) := by decide +kernel
theorem dX12_appendTerm_1 : decode cX12_appendTerm 1 = .ok (.getfield 40, 3) := by decide +kernel
theorem dX12_appendTerm_4 : decode cX12_appendTerm 4 = .ok (.iload_n 1, 1) := by decide +kernel
theorem dX12_appendTerm_5 : decode cX12_appendTerm 5 = .ok (.invokevirtual 204, 3) := by decide +kernel
theorem dX12_appendTerm_8 : decode cX12_appendTerm 8 = .ok (.ifCond .eq 15, 3) := by decide +kernel
theorem dX12_appendTerm_11 : decode cX12_appendTerm 11 = .ok (.aload_n 0, 1) := by decide +kernel
theorem dX12_appendTerm_12 : decode cX12_appendTerm 12 = .ok (.getfield 108, 3) := by decide +kernel
theorem dX12_appendTerm_15 : decode cX12_appendTerm 15 = .ok (.ldc_w 395, 3) := by decide +kernel
theorem dX12_appendTerm_18 : decode cX12_appendTerm 18 = .ok (.invokevirtual 381, 3) := by decide +kernel
theorem dX12_appendTerm_21 : decode cX12_appendTerm 21 = .ok (.pop, 1) := by decide +kernel
theorem dX12_appendTerm_22 : decode cX12_appendTerm 22 = .ok (.return_, 1) := by decide +kernel
theorem dX12_appendTerm_23 : decode cX12_appendTerm 23 = .ok (.aload_n 0, 1) := by decide +kernel
theorem dX12_appendTerm_24 : decode cX12_appendTerm 24 = .ok (.iload_n 1, 1) := by decide +kernel
theorem dX12_appendTerm_25 : decode cX12_appendTerm 25 = .ok (.invokevirtual 296, 3) := by decide +kernel
theorem dX12_appendTerm_28 : decode cX12_appendTerm 28 = .ok (.istore_n 2, 1) := by decide +kernel
theorem dX12_appendTerm_29 : decode cX12_appendTerm 29 = .ok (.iload_n 2, 1) := by decide +kernel
theorem dX12_appendTerm_30 : decode cX12_appendTerm 30 = .ok (.iconst (-1), 1) := by decide +kernel
theorem dX12_appendTerm_31 : decode cX12_appendTerm 31 = .ok (.if_icmp .ne 15, 3) := by decide +kernel
theorem dX12_appendTerm_34 : decode cX12_appendTerm 34 = .ok (.aload_n 0, 1) := by decide +kernel
theorem dX12_appendTerm_35 : decode cX12_appendTerm 35 = .ok (.getfield 108, 3) := by decide +kernel
theorem dX12_appendTerm_38 : decode cX12_appendTerm 38 = .ok (.ldc_w 397, 3) := by decide +kernel
theorem dX12_appendTerm_41 : decode cX12_appendTerm 41 = .ok (.invokevirtual 381, 3) := by decide +kernel
theorem dX12_appendTerm_44 : decode cX12_appendTerm 44 = .ok (.pop, 1) := by decide +kernel
theorem dX12_appendTerm_45 : decode cX12_appendTerm 45 = .ok (.return_, 1) := by decide +kernel
theorem dX12_appendTerm_46 : decode cX12_appendTerm 46 = .ok (.aload_n 0, 1) := by decide +kernel
theorem dX12_appendTerm_47 : decode cX12_appendTerm 47 = .ok (.getfield 108, 3) := by decide +kernel
theorem dX12_appendTerm_50 : decode cX12_appendTerm 50 = .ok (.ldc_w 399, 3) := by decide +kernel
theorem dX12_appendTerm_53 : decode cX12_appendTerm 53 = .ok (.invokevirtual 381, 3) := by decide +kernel
theorem dX12_appendTerm_56 : decode cX12_appendTerm 56 = .ok (.pop, 1) := by decide +kernel
theorem dX12_appendTerm_57 : decode cX12_appendTerm 57 = .ok (.aload_n 0, 1) := by decide +kernel
theorem dX12_appendTerm_58 : decode cX12_appendTerm 58 = .ok (.getfield 108, 3) := by decide +kernel
theorem dX12_appendTerm_61 : decode cX12_appendTerm 61 = .ok (.iload_n 2, 1) := by decide +kernel
theorem dX12_appendTerm_62 : decode cX12_appendTerm 62 = .ok (.aload_n 0, 1) := by decide +kernel
theorem dX12_appendTerm_63 : decode cX12_appendTerm 63 = .ok (.getfield 40, 3) := by decide +kernel
theorem dX12_appendTerm_66 : decode cX12_appendTerm 66 = .ok (.getfield 213, 3) := by decide +kernel
theorem dX12_appendTerm_69 : decode cX12_appendTerm 69 = .ok (.isub, 1) := by decide +kernel
theorem dX12_appendTerm_70 : decode cX12_appendTerm 70 = .ok (.invokevirtual 401, 3) := by decide +kernel
theorem dX12_appendTerm_73 : decode cX12_appendTerm 73 = .ok (.pop, 1) := by decide +kernel
theorem dX12_appendTerm_74 : decode cX12_appendTerm 74 = .ok (.return_, 1) := by decide +kernel
theorem dX12_byteAt_0 : decode cX12_byteAt 0 = .ok (.iload_n 1, 1) := by decide +kernel
theorem dX12_byteAt_1 : decode cX12_byteAt 1 = .ok (.ifCond .lt 25, 3) := by decide +kernel
theorem dX12_byteAt_4 : decode cX12_byteAt 4 = .ok (.iload_n 1, 1) := by decide +kernel
theorem dX12_byteAt_5 : decode cX12_byteAt 5 = .ok (.aload_n 0, 1) := by decide +kernel
theorem dX12_byteAt_6 : decode cX12_byteAt 6 = .ok (.getfield 108, 3) := by decide +kernel
theorem dX12_byteAt_9 : decode cX12_byteAt 9 = .ok (.invokevirtual 387, 3) := by decide +kernel
theorem dX12_byteAt_12 : decode cX12_byteAt 12 = .ok (.if_icmp .ge 14, 3) := by decide +kernel
theorem dX12_byteAt_15 : decode cX12_byteAt 15 = .ok (.aload_n 0, 1) := by decide +kernel
theorem dX12_byteAt_16 : decode cX12_byteAt 16 = .ok (.getfield 108, 3) := by decide +kernel
theorem dX12_byteAt_19 : decode cX12_byteAt 19 = .ok (.iload_n 1, 1) := by decide +kernel
theorem dX12_byteAt_20 : decode cX12_byteAt 20 = .ok (.invokevirtual 404, 3) := by decide +kernel
theorem dX12_byteAt_23 : decode cX12_byteAt 23 = .ok (.goto 4, 3) := by decide +kernel
theorem dX12_byteAt_26 : decode cX12_byteAt 26 = .ok (.iconst (-1), 1) := by decide +kernel
theorem dX12_byteAt_27 : decode cX12_byteAt 27 = .ok (.ireturn, 1) := by decide +kernel
theorem dX12_drawn_0 : decode cX12_drawn 0 = .ok (.iconst 1, 1) := by decide +kernel
theorem dX12_drawn_1 : decode cX12_drawn 1 = .ok (.bipush 60, 2) := by decide +kernel
theorem dX12_drawn_3 : decode cX12_drawn 3 = .ok (.iload_n 1, 1) := by decide +kernel
theorem dX12_drawn_4 : decode cX12_drawn 4 = .ok (.invokestatic 268, 3) := by decide +kernel
theorem dX12_drawn_7 : decode cX12_drawn 7 = .ok (.ifCond .eq 13, 3) := by decide +kernel
theorem dX12_drawn_10 : decode cX12_drawn 10 = .ok (.aload_n 0, 1) := by decide +kernel
theorem dX12_drawn_11 : decode cX12_drawn 11 = .ok (.getfield 19, 3) := by decide +kernel
theorem dX12_drawn_14 : decode cX12_drawn 14 = .ok (.getfield 235, 3) := by decide +kernel
theorem dX12_drawn_17 : decode cX12_drawn 17 = .ok (.ifCond .ne 5, 3) := by decide +kernel
theorem dX12_drawn_20 : decode cX12_drawn 20 = .ok (.iconst (-1), 1) := by decide +kernel
theorem dX12_drawn_21 : decode cX12_drawn 21 = .ok (.ireturn, 1) := by decide +kernel
theorem dX12_drawn_22 : decode cX12_drawn 22 = .ok (.aload_n 0, 1) := by decide +kernel
theorem dX12_drawn_23 : decode cX12_drawn 23 = .ok (.getfield 40, 3) := by decide +kernel
theorem dX12_drawn_26 : decode cX12_drawn 26 = .ok (.iload_n 1, 1) := by decide +kernel
theorem dX12_drawn_27 : decode cX12_drawn 27 = .ok (.invokevirtual 283, 3) := by decide +kernel
theorem dX12_drawn_30 : decode cX12_drawn 30 = .ok (.istore_n 3, 1) := by decide +kernel
theorem dX12_drawn_31 : decode cX12_drawn 31 = .ok (.iload_n 3, 1) := by decide +kernel
theorem dX12_drawn_32 : decode cX12_drawn 32 = .ok (.ifCond .le 23, 3) := by decide +kernel
theorem dX12_drawn_35 : decode cX12_drawn 35 = .ok (.aload_n 0, 1) := by decide +kernel
theorem dX12_drawn_36 : decode cX12_drawn 36 = .ok (.getfield 50, 3) := by decide +kernel
theorem dX12_drawn_39 : decode cX12_drawn 39 = .ok (.aload_n 0, 1) := by decide +kernel
theorem dX12_drawn_40 : decode cX12_drawn 40 = .ok (.getfield 40, 3) := by decide +kernel
theorem dX12_drawn_43 : decode cX12_drawn 43 = .ok (.invokevirtual 275, 3) := by decide +kernel
theorem dX12_drawn_46 : decode cX12_drawn 46 = .ok (.aload_n 0, 1) := by decide +kernel
theorem dX12_drawn_47 : decode cX12_drawn 47 = .ok (.getfield 40, 3) := by decide +kernel
theorem dX12_drawn_50 : decode cX12_drawn 50 = .ok (.iload_n 3, 1) := by decide +kernel
theorem dX12_drawn_51 : decode cX12_drawn 51 = .ok (.iload_n 2, 1) := by decide +kernel
theorem dX12_drawn_52 : decode cX12_drawn 52 = .ok (.invokevirtual 408, 3) := by decide +kernel
theorem dX12_drawn_55 : decode cX12_drawn 55 = .ok (.iload_n 3, 1) := by decide +kernel
theorem dX12_drawn_56 : decode cX12_drawn 56 = .ok (.ireturn, 1) := by decide +kernel
theorem dX12_odds_0 : decode cX12_odds 0 = .ok (.aload_n 0, 1) := by decide +kernel
theorem dX12_odds_1 : decode cX12_odds 1 = .ok (.getfield 19, 3) := by decide +kernel
theorem dX12_odds_4 : decode cX12_odds 4 = .ok (.iload_n 1, 1) := by decide +kernel
theorem dX12_odds_5 : decode cX12_odds 5 = .ok (.invokevirtual 181, 3) := by decide +kernel
theorem dX12_odds_8 : decode cX12_odds 8 = .ok (.ifCond .eq 13, 3) := by decide +kernel
theorem dX12_odds_11 : decode cX12_odds 11 = .ok (.iconst 1, 1) := by decide +kernel
theorem dX12_odds_12 : decode cX12_odds 12 = .ok (.bipush 30, 2) := by decide +kernel
theorem dX12_odds_14 : decode cX12_odds 14 = .ok (.iload_n 2, 1) := by decide +kernel
theorem dX12_odds_15 : decode cX12_odds 15 = .ok (.invokestatic 268, 3) := by decide +kernel
theorem dX12_odds_18 : decode cX12_odds 18 = .ok (.ifCond .ne 5, 3) := by decide +kernel
theorem dX12_odds_21 : decode cX12_odds 21 = .ok (.iconst (-1), 1) := by decide +kernel
theorem dX12_odds_22 : decode cX12_odds 22 = .ok (.ireturn, 1) := by decide +kernel
theorem dX12_odds_23 : decode cX12_odds 23 = .ok (.iconst 0, 1) := by decide +kernel
theorem dX12_odds_24 : decode cX12_odds 24 = .ok (.istore 4, 2) := by decide +kernel
theorem dX12_odds_26 : decode cX12_odds 26 = .ok (.iconst 0, 1) := by decide +kernel
theorem dX12_odds_27 : decode cX12_odds 27 = .ok (.istore 5, 2) := by decide +kernel
theorem dX12_odds_29 : decode cX12_odds 29 = .ok (.iload 5, 2) := by decide +kernel
theorem dX12_odds_31 : decode cX12_odds 31 = .ok (.iload_n 2, 1) := by decide +kernel
theorem dX12_odds_32 : decode cX12_odds 32 = .ok (.if_icmp .ge 54, 3) := by decide +kernel
theorem dX12_odds_35 : decode cX12_odds 35 = .ok (.aload_n 0, 1) := by decide +kernel
theorem dX12_odds_36 : decode cX12_odds 36 = .ok (.getfield 44, 3) := by decide +kernel
theorem dX12_odds_39 : decode cX12_odds 39 = .ok (.aload_n 0, 1) := by decide +kernel
theorem dX12_odds_40 : decode cX12_odds 40 = .ok (.getfield 40, 3) := by decide +kernel
theorem dX12_odds_43 : decode cX12_odds 43 = .ok (.invokevirtual 412, 3) := by decide +kernel
theorem dX12_odds_46 : decode cX12_odds 46 = .ok (.aload_n 0, 1) := by decide +kernel
theorem dX12_odds_47 : decode cX12_odds 47 = .ok (.getfield 44, 3) := by decide +kernel
theorem dX12_odds_50 : decode cX12_odds 50 = .ok (.aload_n 0, 1) := by decide +kernel
theorem dX12_odds_51 : decode cX12_odds 51 = .ok (.getfield 44, 3) := by decide +kernel
theorem dX12_odds_54 : decode cX12_odds 54 = .ok (.bipush 48, 2) := by decide +kernel
theorem dX12_odds_56 : decode cX12_odds 56 = .ok (.invokevirtual 283, 3) := by decide +kernel
theorem dX12_odds_59 : decode cX12_odds 59 = .ok (.iload_n 3, 1) := by decide +kernel
theorem dX12_odds_60 : decode cX12_odds 60 = .ok (.iload 5, 2) := by decide +kernel
theorem dX12_odds_62 : decode cX12_odds 62 = .ok (.iadd, 1) := by decide +kernel
theorem dX12_odds_63 : decode cX12_odds 63 = .ok (.invokevirtual 408, 3) := by decide +kernel
theorem dX12_odds_66 : decode cX12_odds 66 = .ok (.aload_n 0, 1) := by decide +kernel
theorem dX12_odds_67 : decode cX12_odds 67 = .ok (.getfield 44, 3) := by decide +kernel
theorem dX12_odds_70 : decode cX12_odds 70 = .ok (.iload_n 1, 1) := by decide +kernel
theorem dX12_odds_71 : decode cX12_odds 71 = .ok (.invokevirtual 204, 3) := by decide +kernel
theorem dX12_odds_74 : decode cX12_odds 74 = .ok (.ifCond .ne 6, 3) := by decide +kernel
theorem dX12_odds_77 : decode cX12_odds 77 = .ok (.iinc 4 1, 3) := by decide +kernel
theorem dX12_odds_80 : decode cX12_odds 80 = .ok (.iinc 5 1, 3) := by decide +kernel
theorem dX12_odds_83 : decode cX12_odds 83 = .ok (.goto (-54), 3) := by decide +kernel
theorem dX12_odds_86 : decode cX12_odds 86 = .ok (.iload 4, 2) := by decide +kernel
theorem dX12_odds_88 : decode cX12_odds 88 = .ok (.ireturn, 1) := by decide +kernel
theorem dX12_roll_0 : decode cX12_roll 0 = .ok (.iload_n 1, 1) := by decide +kernel
theorem dX12_roll_1 : decode cX12_roll 1 = .ok (.ifCond .eq 12, 3) := by decide +kernel
theorem dX12_roll_4 : decode cX12_roll 4 = .ok (.iload_n 1, 1) := by decide +kernel
theorem dX12_roll_5 : decode cX12_roll 5 = .ok (.iconst 1, 1) := by decide +kernel
theorem dX12_roll_6 : decode cX12_roll 6 = .ok (.if_icmp .eq 7, 3) := by decide +kernel
theorem dX12_roll_9 : decode cX12_roll 9 = .ok (.sipush (-1000), 3) := by decide +kernel
theorem dX12_roll_12 : decode cX12_roll 12 = .ok (.ireturn, 1) := by decide +kernel
theorem dX12_roll_13 : decode cX12_roll 13 = .ok (.aload_n 0, 1) := by decide +kernel
theorem dX12_roll_14 : decode cX12_roll 14 = .ok (.getfield 75, 3) := by decide +kernel
theorem dX12_roll_17 : decode cX12_roll 17 = .ok (.invokevirtual 414, 3) := by decide +kernel
theorem dX12_roll_20 : decode cX12_roll 20 = .ok (.istore_n 2, 1) := by decide +kernel
theorem dX12_roll_21 : decode cX12_roll 21 = .ok (.aload_n 0, 1) := by decide +kernel
theorem dX12_roll_22 : decode cX12_roll 22 = .ok (.aload_n 0, 1) := by decide +kernel
theorem dX12_roll_23 : decode cX12_roll 23 = .ok (.getfield 10, 3) := by decide +kernel
theorem dX12_roll_26 : decode cX12_roll 26 = .ok (.getfield 128, 3) := by decide +kernel
theorem dX12_roll_29 : decode cX12_roll 29 = .ok (.putfield 131, 3) := by decide +kernel
theorem dX12_roll_32 : decode cX12_roll 32 = .ok (.aload_n 0, 1) := by decide +kernel
theorem dX12_roll_33 : decode cX12_roll 33 = .ok (.getfield 10, 3) := by decide +kernel
theorem dX12_roll_36 : decode cX12_roll 36 = .ok (.iconst 0, 1) := by decide +kernel
theorem dX12_roll_37 : decode cX12_roll 37 = .ok (.putfield 120, 3) := by decide +kernel
theorem dX12_roll_40 : decode cX12_roll 40 = .ok (.iload_n 2, 1) := by decide +kernel
theorem dX12_roll_41 : decode cX12_roll 41 = .ok (.ifCond .ne 14, 3) := by decide +kernel
theorem dX12_roll_44 : decode cX12_roll 44 = .ok (.bipush (-2), 2) := by decide +kernel
theorem dX12_roll_46 : decode cX12_roll 46 = .ok (.aload_n 0, 1) := by decide +kernel
theorem dX12_roll_47 : decode cX12_roll 47 = .ok (.getfield 10, 3) := by decide +kernel
theorem dX12_roll_50 : decode cX12_roll 50 = .ok (.getfield 416, 3) := by decide +kernel
theorem dX12_roll_53 : decode cX12_roll 53 = .ok (.isub, 1) := by decide +kernel
theorem dX12_roll_54 : decode cX12_roll 54 = .ok (.ireturn, 1) := by decide +kernel
theorem dX12_roll_55 : decode cX12_roll 55 = .ok (.aload_n 0, 1) := by decide +kernel
theorem dX12_roll_56 : decode cX12_roll 56 = .ok (.getfield 44, 3) := by decide +kernel
theorem dX12_roll_59 : decode cX12_roll 59 = .ok (.aload_n 0, 1) := by decide +kernel
theorem dX12_roll_60 : decode cX12_roll 60 = .ok (.getfield 40, 3) := by decide +kernel
theorem dX12_roll_63 : decode cX12_roll 63 = .ok (.invokevirtual 412, 3) := by decide +kernel
theorem dX12_roll_66 : decode cX12_roll 66 = .ok (.aload_n 0, 1) := by decide +kernel
theorem dX12_roll_67 : decode cX12_roll 67 = .ok (.getfield 75, 3) := by decide +kernel
theorem dX12_roll_70 : decode cX12_roll 70 = .ok (.aload_n 0, 1) := by decide +kernel
theorem dX12_roll_71 : decode cX12_roll 71 = .ok (.getfield 44, 3) := by decide +kernel
theorem dX12_roll_74 : decode cX12_roll 74 = .ok (.invokevirtual 419, 3) := by decide +kernel
theorem dX12_roll_77 : decode cX12_roll 77 = .ok (.istore_n 3, 1) := by decide +kernel
theorem dX12_roll_78 : decode cX12_roll 78 = .ok (.iload_n 1, 1) := by decide +kernel
theorem dX12_roll_79 : decode cX12_roll 79 = .ok (.iconst 1, 1) := by decide +kernel
theorem dX12_roll_80 : decode cX12_roll 80 = .ok (.if_icmp .ne 35, 3) := by decide +kernel
theorem dX12_roll_83 : decode cX12_roll 83 = .ok (.aload_n 0, 1) := by decide +kernel
theorem dX12_roll_84 : decode cX12_roll 84 = .ok (.getfield 75, 3) := by decide +kernel
theorem dX12_roll_87 : decode cX12_roll 87 = .ok (.getfield 422, 3) := by decide +kernel
theorem dX12_roll_90 : decode cX12_roll 90 = .ok (.ifCond .le 25, 3) := by decide +kernel
theorem dX12_roll_93 : decode cX12_roll 93 = .ok (.aload_n 0, 1) := by decide +kernel
theorem dX12_roll_94 : decode cX12_roll 94 = .ok (.getfield 50, 3) := by decide +kernel
theorem dX12_roll_97 : decode cX12_roll 97 = .ok (.aload_n 0, 1) := by decide +kernel
theorem dX12_roll_98 : decode cX12_roll 98 = .ok (.getfield 40, 3) := by decide +kernel
theorem dX12_roll_101 : decode cX12_roll 101 = .ok (.invokevirtual 275, 3) := by decide +kernel
theorem dX12_roll_104 : decode cX12_roll 104 = .ok (.aload_n 0, 1) := by decide +kernel
theorem dX12_roll_105 : decode cX12_roll 105 = .ok (.getfield 40, 3) := by decide +kernel
theorem dX12_roll_108 : decode cX12_roll 108 = .ok (.aload_n 0, 1) := by decide +kernel
theorem dX12_roll_109 : decode cX12_roll 109 = .ok (.getfield 44, 3) := by decide +kernel
theorem dX12_roll_112 : decode cX12_roll 112 = .ok (.invokevirtual 412, 3) := by decide +kernel
theorem dX12_roll_115 : decode cX12_roll 115 = .ok (.iload_n 3, 1) := by decide +kernel
theorem dX12_roll_116 : decode cX12_roll 116 = .ok (.ireturn, 1) := by decide +kernel
theorem dX12_rolled_0 : decode cX12_rolled 0 = .ok (.aload_n 0, 1) := by decide +kernel
theorem dX12_rolled_1 : decode cX12_rolled 1 = .ok (.getfield 75, 3) := by decide +kernel
theorem dX12_rolled_4 : decode cX12_rolled 4 = .ok (.iload_n 1, 1) := by decide +kernel
theorem dX12_rolled_5 : decode cX12_rolled 5 = .ok (.invokevirtual 425, 3) := by decide +kernel
theorem dX12_rolled_8 : decode cX12_rolled 8 = .ok (.ireturn, 1) := by decide +kernel
theorem dX12_sentence_0 : decode cX12_sentence 0 = .ok (.aload_n 0, 1) := by decide +kernel
theorem dX12_sentence_1 : decode cX12_sentence 1 = .ok (.getfield 86, 3) := by decide +kernel
theorem dX12_sentence_4 : decode cX12_sentence 4 = .ok (.aload_n 0, 1) := by decide +kernel
theorem dX12_sentence_5 : decode cX12_sentence 5 = .ok (.getfield 10, 3) := by decide +kernel
theorem dX12_sentence_8 : decode cX12_sentence 8 = .ok (.aload_n 0, 1) := by decide +kernel
theorem dX12_sentence_9 : decode cX12_sentence 9 = .ok (.getfield 19, 3) := by decide +kernel
theorem dX12_sentence_12 : decode cX12_sentence 12 = .ok (.invokevirtual 428, 3) := by decide +kernel
theorem dX12_sentence_15 : decode cX12_sentence 15 = .ok (.istore_n 1, 1) := by decide +kernel
theorem dX12_sentence_16 : decode cX12_sentence 16 = .ok (.aload_n 0, 1) := by decide +kernel
theorem dX12_sentence_17 : decode cX12_sentence 17 = .ok (.aload_n 0, 1) := by decide +kernel
theorem dX12_sentence_18 : decode cX12_sentence 18 = .ok (.getfield 10, 3) := by decide +kernel
theorem dX12_sentence_21 : decode cX12_sentence 21 = .ok (.getfield 128, 3) := by decide +kernel
theorem dX12_sentence_24 : decode cX12_sentence 24 = .ok (.putfield 131, 3) := by decide +kernel
theorem dX12_sentence_27 : decode cX12_sentence 27 = .ok (.aload_n 0, 1) := by decide +kernel
theorem dX12_sentence_28 : decode cX12_sentence 28 = .ok (.getfield 10, 3) := by decide +kernel
theorem dX12_sentence_31 : decode cX12_sentence 31 = .ok (.iconst 0, 1) := by decide +kernel
theorem dX12_sentence_32 : decode cX12_sentence 32 = .ok (.putfield 120, 3) := by decide +kernel
theorem dX12_sentence_35 : decode cX12_sentence 35 = .ok (.iload_n 1, 1) := by decide +kernel
theorem dX12_sentence_36 : decode cX12_sentence 36 = .ok (.ifCond .ne 13, 3) := by decide +kernel
theorem dX12_sentence_39 : decode cX12_sentence 39 = .ok (.iconst (-1), 1) := by decide +kernel
theorem dX12_sentence_40 : decode cX12_sentence 40 = .ok (.aload_n 0, 1) := by decide +kernel
theorem dX12_sentence_41 : decode cX12_sentence 41 = .ok (.getfield 10, 3) := by decide +kernel
theorem dX12_sentence_44 : decode cX12_sentence 44 = .ok (.getfield 416, 3) := by decide +kernel
theorem dX12_sentence_47 : decode cX12_sentence 47 = .ok (.isub, 1) := by decide +kernel
theorem dX12_sentence_48 : decode cX12_sentence 48 = .ok (.ireturn, 1) := by decide +kernel
theorem dX12_sentence_49 : decode cX12_sentence 49 = .ok (.aload_n 0, 1) := by decide +kernel
theorem dX12_sentence_50 : decode cX12_sentence 50 = .ok (.getfield 82, 3) := by decide +kernel
theorem dX12_sentence_53 : decode cX12_sentence 53 = .ok (.aload_n 0, 1) := by decide +kernel
theorem dX12_sentence_54 : decode cX12_sentence 54 = .ok (.getfield 86, 3) := by decide +kernel
theorem dX12_sentence_57 : decode cX12_sentence 57 = .ok (.invokevirtual 431, 3) := by decide +kernel
theorem dX12_sentence_60 : decode cX12_sentence 60 = .ok (.aload_n 0, 1) := by decide +kernel
theorem dX12_sentence_61 : decode cX12_sentence 61 = .ok (.getfield 82, 3) := by decide +kernel
theorem dX12_sentence_64 : decode cX12_sentence 64 = .ok (.getfield 434, 3) := by decide +kernel
theorem dX12_sentence_67 : decode cX12_sentence 67 = .ok (.ireturn, 1) := by decide +kernel
theorem dX12_said_0 : decode cX12_said 0 = .ok (.aload_n 0, 1) := by decide +kernel
theorem dX12_said_1 : decode cX12_said 1 = .ok (.getfield 82, 3) := by decide +kernel
theorem dX12_said_4 : decode cX12_said 4 = .ok (.getfield 434, 3) := by decide +kernel
theorem dX12_said_7 : decode cX12_said 7 = .ok (.ifCond .ne 5, 3) := by decide +kernel
theorem dX12_said_10 : decode cX12_said 10 = .ok (.iconst (-1), 1) := by decide +kernel
theorem dX12_said_11 : decode cX12_said 11 = .ok (.ireturn, 1) := by decide +kernel
theorem dX12_said_12 : decode cX12_said 12 = .ok (.iconst 0, 1) := by decide +kernel
theorem dX12_said_13 : decode cX12_said 13 = .ok (.istore_n 2, 1) := by decide +kernel
theorem dX12_said_14 : decode cX12_said 14 = .ok (.iconst 0, 1) := by decide +kernel
theorem dX12_said_15 : decode cX12_said 15 = .ok (.istore_n 3, 1) := by decide +kernel
theorem dX12_said_16 : decode cX12_said 16 = .ok (.iload_n 3, 1) := by decide +kernel
theorem dX12_said_17 : decode cX12_said 17 = .ok (.aload_n 0, 1) := by decide +kernel
theorem dX12_said_18 : decode cX12_said 18 = .ok (.getfield 19, 3) := by decide +kernel
theorem dX12_said_21 : decode cX12_said 21 = .ok (.getfield 238, 3) := by decide +kernel
theorem dX12_said_24 : decode cX12_said 24 = .ok (.if_icmp .ge 38, 3) := by decide +kernel
theorem dX12_said_27 : decode cX12_said 27 = .ok (.aload_n 0, 1) := by decide +kernel
theorem dX12_said_28 : decode cX12_said 28 = .ok (.getfield 82, 3) := by decide +kernel
theorem dX12_said_31 : decode cX12_said 31 = .ok (.aload_n 0, 1) := by decide +kernel
theorem dX12_said_32 : decode cX12_said 32 = .ok (.getfield 40, 3) := by decide +kernel
theorem dX12_said_35 : decode cX12_said 35 = .ok (.aload_n 0, 1) := by decide +kernel
theorem dX12_said_36 : decode cX12_said 36 = .ok (.getfield 19, 3) := by decide +kernel
theorem dX12_said_39 : decode cX12_said 39 = .ok (.iload_n 3, 1) := by decide +kernel
theorem dX12_said_40 : decode cX12_said 40 = .ok (.invokevirtual 437, 3) := by decide +kernel
theorem dX12_said_43 : decode cX12_said 43 = .ok (.ifCond .eq 13, 3) := by decide +kernel
theorem dX12_said_46 : decode cX12_said 46 = .ok (.iload_n 2, 1) := by decide +kernel
theorem dX12_said_47 : decode cX12_said 47 = .ok (.iload_n 1, 1) := by decide +kernel
theorem dX12_said_48 : decode cX12_said 48 = .ok (.if_icmp .ne 5, 3) := by decide +kernel
theorem dX12_said_51 : decode cX12_said 51 = .ok (.iload_n 3, 1) := by decide +kernel
theorem dX12_said_52 : decode cX12_said 52 = .ok (.ireturn, 1) := by decide +kernel
theorem dX12_said_53 : decode cX12_said 53 = .ok (.iinc 2 1, 3) := by decide +kernel
theorem dX12_said_56 : decode cX12_said 56 = .ok (.iinc 3 1, 3) := by decide +kernel
theorem dX12_said_59 : decode cX12_said 59 = .ok (.goto (-43), 3) := by decide +kernel
theorem dX12_said_62 : decode cX12_said 62 = .ok (.iload_n 1, 1) := by decide +kernel
theorem dX12_said_63 : decode cX12_said 63 = .ok (.iconst (-1), 1) := by decide +kernel
theorem dX12_said_64 : decode cX12_said 64 = .ok (.if_icmp .ne 7, 3) := by decide +kernel
theorem dX12_said_67 : decode cX12_said 67 = .ok (.iload_n 2, 1) := by decide +kernel
theorem dX12_said_68 : decode cX12_said 68 = .ok (.goto 4, 3) := by decide +kernel
theorem dX12_said_71 : decode cX12_said 71 = .ok (.iconst (-1), 1) := by decide +kernel
theorem dX12_said_72 : decode cX12_said 72 = .ok (.ireturn, 1) := by decide +kernel
theorem dX12_image_0 : decode cX12_image 0 = .ok (.iload_n 1, 1) := by decide +kernel
theorem dX12_image_1 : decode cX12_image 1 = .ok (.ifCond .lt 8, 3) := by decide +kernel
theorem dX12_image_4 : decode cX12_image 4 = .ok (.iload_n 1, 1) := by decide +kernel
theorem dX12_image_5 : decode cX12_image 5 = .ok (.iconst 2, 1) := by decide +kernel
theorem dX12_image_6 : decode cX12_image 6 = .ok (.if_icmp .lt 5, 3) := by decide +kernel
theorem dX12_image_9 : decode cX12_image 9 = .ok (.iconst 0, 1) := by decide +kernel
theorem dX12_image_10 : decode cX12_image 10 = .ok (.ireturn, 1) := by decide +kernel
theorem dX12_image_11 : decode cX12_image 11 = .ok (.aload_n 0, 1) := by decide +kernel
theorem dX12_image_12 : decode cX12_image 12 = .ok (.getfield 89, 3) := by decide +kernel
theorem dX12_image_15 : decode cX12_image 15 = .ok (.iload_n 1, 1) := by decide +kernel
theorem dX12_image_16 : decode cX12_image 16 = .ok (.aaload, 1) := by decide +kernel
theorem dX12_image_17 : decode cX12_image 17 = .ok (.aload_n 0, 1) := by decide +kernel
theorem dX12_image_18 : decode cX12_image 18 = .ok (.getfield 19, 3) := by decide +kernel
theorem dX12_image_21 : decode cX12_image 21 = .ok (.invokevirtual 134, 3) := by decide +kernel
theorem dX12_image_24 : decode cX12_image 24 = .ok (.aload_n 0, 1) := by decide +kernel
theorem dX12_image_25 : decode cX12_image 25 = .ok (.getfield 93, 3) := by decide +kernel
theorem dX12_image_28 : decode cX12_image 28 = .ok (.iload_n 1, 1) := by decide +kernel
theorem dX12_image_29 : decode cX12_image 29 = .ok (.aaload, 1) := by decide +kernel
theorem dX12_image_30 : decode cX12_image 30 = .ok (.aload_n 0, 1) := by decide +kernel
theorem dX12_image_31 : decode cX12_image 31 = .ok (.getfield 40, 3) := by decide +kernel
theorem dX12_image_34 : decode cX12_image 34 = .ok (.invokevirtual 412, 3) := by decide +kernel
theorem dX12_image_37 : decode cX12_image 37 = .ok (.aload_n 0, 1) := by decide +kernel
theorem dX12_image_38 : decode cX12_image 38 = .ok (.getfield 97, 3) := by decide +kernel
theorem dX12_image_41 : decode cX12_image 41 = .ok (.iload_n 1, 1) := by decide +kernel
theorem dX12_image_42 : decode cX12_image 42 = .ok (.aaload, 1) := by decide +kernel
theorem dX12_image_43 : decode cX12_image 43 = .ok (.aload_n 0, 1) := by decide +kernel
theorem dX12_image_44 : decode cX12_image 44 = .ok (.getfield 82, 3) := by decide +kernel
theorem dX12_image_47 : decode cX12_image 47 = .ok (.invokevirtual 431, 3) := by decide +kernel
theorem dX12_image_50 : decode cX12_image 50 = .ok (.aload_n 0, 1) := by decide +kernel
theorem dX12_image_51 : decode cX12_image 51 = .ok (.getfield 101, 3) := by decide +kernel
theorem dX12_image_54 : decode cX12_image 54 = .ok (.iload_n 1, 1) := by decide +kernel
theorem dX12_image_55 : decode cX12_image 55 = .ok (.iconst 1, 1) := by decide +kernel
theorem dX12_image_56 : decode cX12_image 56 = .ok (.bastore, 1) := by decide +kernel
theorem dX12_image_57 : decode cX12_image 57 = .ok (.iconst 1, 1) := by decide +kernel
theorem dX12_image_58 : decode cX12_image 58 = .ok (.ireturn, 1) := by decide +kernel
theorem dX12_restore_0 : decode cX12_restore 0 = .ok (.iload_n 1, 1) := by decide +kernel
theorem dX12_restore_1 : decode cX12_restore 1 = .ok (.ifCond .lt 17, 3) := by decide +kernel
theorem dX12_restore_4 : decode cX12_restore 4 = .ok (.iload_n 1, 1) := by decide +kernel
theorem dX12_restore_5 : decode cX12_restore 5 = .ok (.iconst 2, 1) := by decide +kernel
theorem dX12_restore_6 : decode cX12_restore 6 = .ok (.if_icmp .ge 12, 3) := by decide +kernel
theorem dX12_restore_9 : decode cX12_restore 9 = .ok (.aload_n 0, 1) := by decide +kernel
theorem dX12_restore_10 : decode cX12_restore 10 = .ok (.getfield 101, 3) := by decide +kernel
theorem dX12_restore_13 : decode cX12_restore 13 = .ok (.iload_n 1, 1) := by decide +kernel
theorem dX12_restore_14 : decode cX12_restore 14 = .ok (.baload, 1) := by decide +kernel
theorem dX12_restore_15 : decode cX12_restore 15 = .ok (.ifCond .ne 5, 3) := by decide +kernel
theorem dX12_restore_18 : decode cX12_restore 18 = .ok (.iconst 0, 1) := by decide +kernel
theorem dX12_restore_19 : decode cX12_restore 19 = .ok (.ireturn, 1) := by decide +kernel
theorem dX12_restore_20 : decode cX12_restore 20 = .ok (.aload_n 0, 1) := by decide +kernel
theorem dX12_restore_21 : decode cX12_restore 21 = .ok (.getfield 19, 3) := by decide +kernel
theorem dX12_restore_24 : decode cX12_restore 24 = .ok (.aload_n 0, 1) := by decide +kernel
theorem dX12_restore_25 : decode cX12_restore 25 = .ok (.getfield 89, 3) := by decide +kernel
theorem dX12_restore_28 : decode cX12_restore 28 = .ok (.iload_n 1, 1) := by decide +kernel
theorem dX12_restore_29 : decode cX12_restore 29 = .ok (.aaload, 1) := by decide +kernel
theorem dX12_restore_30 : decode cX12_restore 30 = .ok (.invokevirtual 134, 3) := by decide +kernel
theorem dX12_restore_33 : decode cX12_restore 33 = .ok (.aload_n 0, 1) := by decide +kernel
theorem dX12_restore_34 : decode cX12_restore 34 = .ok (.getfield 40, 3) := by decide +kernel
theorem dX12_restore_37 : decode cX12_restore 37 = .ok (.aload_n 0, 1) := by decide +kernel
theorem dX12_restore_38 : decode cX12_restore 38 = .ok (.getfield 93, 3) := by decide +kernel
theorem dX12_restore_41 : decode cX12_restore 41 = .ok (.iload_n 1, 1) := by decide +kernel
theorem dX12_restore_42 : decode cX12_restore 42 = .ok (.aaload, 1) := by decide +kernel
theorem dX12_restore_43 : decode cX12_restore 43 = .ok (.invokevirtual 412, 3) := by decide +kernel
theorem dX12_restore_46 : decode cX12_restore 46 = .ok (.aload_n 0, 1) := by decide +kernel
theorem dX12_restore_47 : decode cX12_restore 47 = .ok (.getfield 82, 3) := by decide +kernel
theorem dX12_restore_50 : decode cX12_restore 50 = .ok (.aload_n 0, 1) := by decide +kernel
theorem dX12_restore_51 : decode cX12_restore 51 = .ok (.getfield 97, 3) := by decide +kernel
theorem dX12_restore_54 : decode cX12_restore 54 = .ok (.iload_n 1, 1) := by decide +kernel
theorem dX12_restore_55 : decode cX12_restore 55 = .ok (.aaload, 1) := by decide +kernel
theorem dX12_restore_56 : decode cX12_restore 56 = .ok (.invokevirtual 431, 3) := by decide +kernel
theorem dX12_restore_59 : decode cX12_restore 59 = .ok (.aload_n 0, 1) := by decide +kernel
theorem dX12_restore_60 : decode cX12_restore 60 = .ok (.getfield 50, 3) := by decide +kernel
theorem dX12_restore_63 : decode cX12_restore 63 = .ok (.invokevirtual 143, 3) := by decide +kernel
theorem dX12_restore_66 : decode cX12_restore 66 = .ok (.iconst 1, 1) := by decide +kernel
theorem dX12_restore_67 : decode cX12_restore 67 = .ok (.ireturn, 1) := by decide +kernel
theorem dJx29ce0_ordinal_8abf5_0 : decode cJx29ce0_ordinal_8abf5 0 = .ok (.aload_n 0, 1) := by decide +kernel
theorem dJx29ce0_ordinal_8abf5_1 : decode cJx29ce0_ordinal_8abf5 1 = .ok (.getfield 7, 3) := by decide +kernel
theorem dJx29ce0_ordinal_8abf5_4 : decode cJx29ce0_ordinal_8abf5 4 = .ok (.ireturn, 1) := by decide +kernel
