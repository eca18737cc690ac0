/-! names and decode rows (printed) -/
abbrev cX13_thrown : ByteArray := prog_15_method_1_code
def yX13_thrown : MethodName := ⟨RX13, "thrown", "()I"⟩
abbrev cX13_refuse : ByteArray := prog_15_method_2_code
def yX13_refuse : MethodName := ⟨RX13, "refuse", "()I"⟩
abbrev cX13_come : ByteArray := prog_15_method_3_code
def yX13_come : MethodName := ⟨RX13, "come", "(I)V"⟩
abbrev cX13_feed : ByteArray := prog_15_method_4_code
def yX13_feed : MethodName := ⟨RX13, "feed", "(IIIII)I"⟩
abbrev cX13_end : ByteArray := prog_15_method_5_code
def yX13_end : MethodName := ⟨RX13, "end", "(I)Z"⟩
abbrev cX13_take : ByteArray := prog_15_method_6_code
def yX13_take : MethodName := ⟨RX13, "take", "()I"⟩
abbrev cX13_isIn : ByteArray := prog_15_method_7_code
def yX13_isIn : MethodName := ⟨RX13, "isIn", "(III)Z"⟩
abbrev cX13_has : ByteArray := prog_15_method_8_code
def yX13_has : MethodName := ⟨RX13, "has", "(II)Z"⟩
abbrev cX13_least : ByteArray := prog_15_method_10_code
def yX13_least : MethodName := ⟨RX13, "least", "(II)I"⟩
abbrev cX13_tapeAt : ByteArray := prog_15_method_13_code
def yX13_tapeAt : MethodName := ⟨RX13, "tapeAt", "(I)I"⟩
abbrev cX13_isDigit : ByteArray := prog_15_method_14_code
def yX13_isDigit : MethodName := ⟨RX13, "isDigit", "(I)Z"⟩
abbrev cX13_isLetter : ByteArray := prog_15_method_15_code
def yX13_isLetter : MethodName := ⟨RX13, "isLetter", "(I)Z"⟩
abbrev cX13_go : ByteArray := prog_15_method_16_code
def yX13_go : MethodName := ⟨RX13, "go", "()V"⟩
abbrev cX13_spelt : ByteArray := prog_15_method_17_code
def yX13_spelt : MethodName := ⟨RX13, "spelt", "(IIIIII)J"⟩
abbrev cX13_wordOf : ByteArray := prog_15_method_18_code
def yX13_wordOf : MethodName := ⟨RX13, "wordOf", "(I)J"⟩
abbrev cX13_isWord : ByteArray := prog_15_method_19_code
def yX13_isWord : MethodName := ⟨RX13, "isWord", "(I)Z"⟩
abbrev cX13_isSign : ByteArray := prog_15_method_20_code
def yX13_isSign : MethodName := ⟨RX13, "isSign", "(I)Z"⟩
abbrev cX13_isName : ByteArray := prog_15_method_21_code
def yX13_isName : MethodName := ⟨RX13, "isName", "()Z"⟩
abbrev cX13_bad : ByteArray := prog_15_method_22_code
def yX13_bad : MethodName := ⟨RX13, "bad", "(I)Z"⟩
abbrev cX13_readNumber : ByteArray := prog_15_method_23_code
def yX13_readNumber : MethodName := ⟨RX13, "readNumber", "(II)Z"⟩
abbrev cX13_readEnd : ByteArray := prog_15_method_24_code
def yX13_readEnd : MethodName := ⟨RX13, "readEnd", "()Z"⟩
abbrev cX13_begin : ByteArray := prog_15_method_25_code
def yX13_begin : MethodName := ⟨RX13, "begin", "(I)V"⟩
abbrev cX13_init : ByteArray := prog_15_method_26_code
def yX13_init : MethodName := ⟨RX13, "<init>", "()V"⟩
abbrev cX13_startRead : ByteArray := prog_15_method_27_code
def yX13_startRead : MethodName := ⟨RX13, "startRead", "()V"⟩
abbrev cX13_startSo : ByteArray := prog_15_method_28_code
def yX13_startSo : MethodName := ⟨RX13, "startSo", "()V"⟩
abbrev cX13_findIn : ByteArray := prog_15_method_29_code
def yX13_findIn : MethodName := ⟨RX13, "findIn", "([JIIJ)I"⟩
abbrev cX13_readNew : ByteArray := prog_15_method_30_code
def yX13_readNew : MethodName := ⟨RX13, "readNew", "(I)Z"⟩
abbrev cX13_isOne : ByteArray := prog_15_method_31_code
def yX13_isOne : MethodName := ⟨RX13, "isOne", "(II)Z"⟩
abbrev cX13_readOne : ByteArray := prog_15_method_32_code
def yX13_readOne : MethodName := ⟨RX13, "readOne", "(II)Z"⟩
abbrev cX13_readFirst : ByteArray := prog_15_method_33_code
def yX13_readFirst : MethodName := ⟨RX13, "readFirst", "(II)Z"⟩
abbrev cX13_put : ByteArray := prog_15_method_34_code
def yX13_put : MethodName := ⟨RX13, "put", "(IZ)Z"⟩
abbrev cX13_readPerson : ByteArray := prog_15_method_35_code
def yX13_readPerson : MethodName := ⟨RX13, "readPerson", "()Z"⟩
abbrev cX13_readFonder : ByteArray := prog_15_method_36_code
def yX13_readFonder : MethodName := ⟨RX13, "readFonder", "(I)Z"⟩
abbrev cX13_readGlass : ByteArray := prog_15_method_37_code
def yX13_readGlass : MethodName := ⟨RX13, "readGlass", "()Z"⟩
abbrev cX13_readDamp : ByteArray := prog_15_method_38_code
def yX13_readDamp : MethodName := ⟨RX13, "readDamp", "()Z"⟩
abbrev cX13_readGood : ByteArray := prog_15_method_39_code
def yX13_readGood : MethodName := ⟨RX13, "readGood", "()Z"⟩
abbrev cX13_isFresh : ByteArray := prog_15_method_40_code
def yX13_isFresh : MethodName := ⟨RX13, "isFresh", "(I)Z"⟩
abbrev cX13_readFlag : ByteArray := prog_15_method_41_code
def yX13_readFlag : MethodName := ⟨RX13, "readFlag", "(II)Z"⟩
abbrev cX13_readLine : ByteArray := prog_15_method_42_code
def yX13_readLine : MethodName := ⟨RX13, "readLine", "()Z"⟩
abbrev cX13_parish : ByteArray := prog_15_method_43_code
def yX13_parish : MethodName := ⟨RX13, "parish", "()I"⟩
abbrev cX13_fault : ByteArray := prog_15_method_44_code
def yX13_fault : MethodName := ⟨RX13, "fault", "()I"⟩
abbrev cX13_isPerson : ByteArray := prog_15_method_45_code
def yX13_isPerson : MethodName := ⟨RX13, "isPerson", "(I)Z"⟩
abbrev cX13_isGlass : ByteArray := prog_15_method_46_code
def yX13_isGlass : MethodName := ⟨RX13, "isGlass", "(I)Z"⟩
abbrev cX13_isLapsed : ByteArray := prog_15_method_47_code
def yX13_isLapsed : MethodName := ⟨RX13, "isLapsed", "(I)Z"⟩
abbrev cX13_isDamp : ByteArray := prog_15_method_48_code
def yX13_isDamp : MethodName := ⟨RX13, "isDamp", "(I)Z"⟩
abbrev cX13_isUp : ByteArray := prog_15_method_49_code
def yX13_isUp : MethodName := ⟨RX13, "isUp", "(II)Z"⟩
abbrev cX13_isAwake : ByteArray := prog_15_method_50_code
def yX13_isAwake : MethodName := ⟨RX13, "isAwake", "(II)Z"⟩
abbrev cX13_fonder : ByteArray := prog_15_method_51_code
def yX13_fonder : MethodName := ⟨RX13, "fonder", "(II)I"⟩
abbrev cX13_fondAt : ByteArray := prog_15_method_52_code
def yX13_fondAt : MethodName := ⟨RX13, "fondAt", "(II)I"⟩
abbrev cX13_isWilling : ByteArray := prog_15_method_53_code
def yX13_isWilling : MethodName := ⟨RX13, "isWilling", "(II)Z"⟩
abbrev cX13_half : ByteArray := prog_15_method_54_code
def yX13_half : MethodName := ⟨RX13, "half", "(I)I"⟩
abbrev cX13_runs : ByteArray := prog_15_method_55_code
def yX13_runs : MethodName := ⟨RX13, "runs", "(II)I"⟩
abbrev cX13_person : ByteArray := prog_15_method_56_code
def yX13_person : MethodName := ⟨RX13, "person", "(II)I"⟩
abbrev cX13_otherOf : ByteArray := prog_15_method_57_code
def yX13_otherOf : MethodName := ⟨RX13, "otherOf", "(I)I"⟩
abbrev cX13_glass : ByteArray := prog_15_method_58_code
def yX13_glass : MethodName := ⟨RX13, "glass", "(II)I"⟩
abbrev cX13_now : ByteArray := prog_15_method_59_code
def yX13_now : MethodName := ⟨RX13, "now", "(I)I"⟩
abbrev cX13_snap : ByteArray := prog_15_method_60_code
def yX13_snap : MethodName := ⟨RX13, "snap", "()V"⟩
abbrev cX13_whyWed : ByteArray := prog_15_method_61_code
def yX13_whyWed : MethodName := ⟨RX13, "whyWed", "(I)I"⟩
abbrev cX13_whyTurn : ByteArray := prog_15_method_62_code
def yX13_whyTurn : MethodName := ⟨RX13, "whyTurn", "(I)I"⟩
abbrev cX13_doTurn : ByteArray := prog_15_method_63_code
def yX13_doTurn : MethodName := ⟨RX13, "doTurn", "(I)V"⟩
abbrev cX13_doWoo : ByteArray := prog_15_method_64_code
def yX13_doWoo : MethodName := ⟨RX13, "doWoo", "(II)V"⟩
abbrev cX13_whyTilt : ByteArray := prog_15_method_65_code
def yX13_whyTilt : MethodName := ⟨RX13, "whyTilt", "(II)I"⟩
abbrev cX13_whyWiden : ByteArray := prog_15_method_66_code
def yX13_whyWiden : MethodName := ⟨RX13, "whyWiden", "(II)I"⟩
abbrev cX13_whySpill : ByteArray := prog_15_method_67_code
def yX13_whySpill : MethodName := ⟨RX13, "whySpill", "(II)I"⟩
abbrev cX13_why : ByteArray := prog_15_method_68_code
def yX13_why : MethodName := ⟨RX13, "why", "(III)I"⟩
abbrev cX13_live : ByteArray := prog_15_method_69_code
def yX13_live : MethodName := ⟨RX13, "live", "(III)V"⟩
abbrev cX13_act : ByteArray := prog_15_method_70_code
def yX13_act : MethodName := ⟨RX13, "act", "(III)I"⟩
abbrev cX13_turn : ByteArray := prog_15_method_71_code
def yX13_turn : MethodName := ⟨RX13, "turn", "(I)I"⟩
abbrev cX13_wake : ByteArray := prog_15_method_72_code
def yX13_wake : MethodName := ⟨RX13, "wake", "(I)I"⟩
abbrev cX13_woo : ByteArray := prog_15_method_73_code
def yX13_woo : MethodName := ⟨RX13, "woo", "(II)I"⟩
abbrev cX13_tilt : ByteArray := prog_15_method_74_code
def yX13_tilt : MethodName := ⟨RX13, "tilt", "(II)I"⟩
abbrev cX13_widen : ByteArray := prog_15_method_75_code
def yX13_widen : MethodName := ⟨RX13, "widen", "(II)I"⟩
abbrev cX13_spill : ByteArray := prog_15_method_76_code
def yX13_spill : MethodName := ⟨RX13, "spill", "(II)I"⟩
abbrev cX13_undo : ByteArray := prog_15_method_77_code
def yX13_undo : MethodName := ⟨RX13, "undo", "()I"⟩
abbrev cX13_ended : ByteArray := prog_15_method_78_code
def yX13_ended : MethodName := ⟨RX13, "ended", "(I)V"⟩
abbrev cX13_oneHour : ByteArray := prog_15_method_79_code
def yX13_oneHour : MethodName := ⟨RX13, "oneHour", "()V"⟩
abbrev cX13_passHours : ByteArray := prog_15_method_80_code
def yX13_passHours : MethodName := ⟨RX13, "passHours", "(I)I"⟩
abbrev cX13_hours : ByteArray := prog_15_method_81_code
def yX13_hours : MethodName := ⟨RX13, "hours", "(I)I"⟩
abbrev cX13_layAside : ByteArray := prog_15_method_82_code
def yX13_layAside : MethodName := ⟨RX13, "layAside", "()V"⟩
abbrev cX13_takeBack : ByteArray := prog_15_method_83_code
def yX13_takeBack : MethodName := ⟨RX13, "takeBack", "()V"⟩
abbrev cX13_endsBy : ByteArray := prog_15_method_84_code
def yX13_endsBy : MethodName := ⟨RX13, "endsBy", "(II)I"⟩
abbrev cX13_endOf : ByteArray := prog_15_method_85_code
def yX13_endOf : MethodName := ⟨RX13, "endOf", "(I)I"⟩
abbrev cX13_ends : ByteArray := prog_15_method_86_code
def yX13_ends : MethodName := ⟨RX13, "ends", "(I)I"⟩
abbrev cX13_layLapses : ByteArray := prog_15_method_87_code
def yX13_layLapses : MethodName := ⟨RX13, "layLapses", "()V"⟩
abbrev cX13_lapses : ByteArray := prog_15_method_88_code
def yX13_lapses : MethodName := ⟨RX13, "lapses", "(I)I"⟩
abbrev cX13_soonest : ByteArray := prog_15_method_89_code
def yX13_soonest : MethodName := ⟨RX13, "soonest", "()I"⟩
abbrev cX13_sleeper : ByteArray := prog_15_method_90_code
def yX13_sleeper : MethodName := ⟨RX13, "sleeper", "(II)I"⟩
abbrev cX13_isTurned : ByteArray := prog_15_method_91_code
def yX13_isTurned : MethodName := ⟨RX13, "isTurned", "(II)Z"⟩
abbrev cX13_wakesAt : ByteArray := prog_15_method_92_code
def yX13_wakesAt : MethodName := ⟨RX13, "wakesAt", "(II)I"⟩
abbrev cX13_waits : ByteArray := prog_15_method_93_code
def yX13_waits : MethodName := ⟨RX13, "waits", "(II)I"⟩
abbrev cX13_layWatch : ByteArray := prog_15_method_94_code
def yX13_layWatch : MethodName := ⟨RX13, "layWatch", "(II)V"⟩
abbrev cX13_watch : ByteArray := prog_15_method_95_code
def yX13_watch : MethodName := ⟨RX13, "watch", "(II)I"⟩
abbrev cX13_waking : ByteArray := prog_15_method_96_code
def yX13_waking : MethodName := ⟨RX13, "waking", "(I)I"⟩
abbrev cX13_isChosen : ByteArray := prog_15_method_97_code
def yX13_isChosen : MethodName := ⟨RX13, "isChosen", "(II)Z"⟩
abbrev cX13_chosen : ByteArray := prog_15_method_98_code
def yX13_chosen : MethodName := ⟨RX13, "chosen", "(I)I"⟩
abbrev cX13_choices : ByteArray := prog_15_method_99_code
def yX13_choices : MethodName := ⟨RX13, "choices", "(I)I"⟩
abbrev cX13_playOf : ByteArray := prog_15_method_100_code
def yX13_playOf : MethodName := ⟨RX13, "playOf", "(I)I"⟩
abbrev cX13_play : ByteArray := prog_15_method_101_code
def yX13_play : MethodName := ⟨RX13, "play", "(I)I"⟩
abbrev cX13_playAt : ByteArray := prog_15_method_102_code
def yX13_playAt : MethodName := ⟨RX13, "playAt", "(I)I"⟩
abbrev cX13_steal : ByteArray := prog_15_method_103_code
def yX13_steal : MethodName := ⟨RX13, "steal", "(II)I"⟩
abbrev cX13_law : ByteArray := prog_15_method_104_code
def yX13_law : MethodName := ⟨RX13, "law", "(II)I"⟩
abbrev cX13_partsOf : ByteArray := prog_15_method_105_code
def yX13_partsOf : MethodName := ⟨RX13, "partsOf", "(I)I"⟩
abbrev cX13_parts : ByteArray := prog_15_method_106_code
def yX13_parts : MethodName := ⟨RX13, "parts", "(I)I"⟩
abbrev cX13_parted : ByteArray := prog_15_method_107_code
def yX13_parted : MethodName := ⟨RX13, "parted", "(I)I"⟩
abbrev cX13_good : ByteArray := prog_15_method_108_code
def yX13_good : MethodName := ⟨RX13, "good", "(II)I"⟩
abbrev cX13_rings : ByteArray := prog_15_method_109_code
def yX13_rings : MethodName := ⟨RX13, "rings", "(I)I"⟩
abbrev cX13_together : ByteArray := prog_15_method_110_code
def yX13_together : MethodName := ⟨RX13, "together", "(II)I"⟩
abbrev cX13_write : ByteArray := prog_15_method_111_code
def yX13_write : MethodName := ⟨RX13, "write", "(I)V"⟩
abbrev cX13_writeWord : ByteArray := prog_15_method_112_code
def yX13_writeWord : MethodName := ⟨RX13, "writeWord", "(J)V"⟩
abbrev cX13_writeNumber : ByteArray := prog_15_method_113_code
def yX13_writeNumber : MethodName := ⟨RX13, "writeNumber", "(I)V"⟩
abbrev cX13_banns : ByteArray := prog_15_method_114_code
def yX13_banns : MethodName := ⟨RX13, "banns", "(I)I"⟩
abbrev cX13_byteAt : ByteArray := prog_15_method_115_code
def yX13_byteAt : MethodName := ⟨RX13, "byteAt", "(I)I"⟩
abbrev cX13_draw : ByteArray := prog_15_method_116_code
def yX13_draw : MethodName := ⟨RX13, "draw", "(I)I"⟩
abbrev cX13_tryTo : ByteArray := prog_15_method_117_code
def yX13_tryTo : MethodName := ⟨RX13, "tryTo", "(III)V"⟩
abbrev cX13_drawHours : ByteArray := prog_15_method_118_code
def yX13_drawHours : MethodName := ⟨RX13, "drawHours", "(II)I"⟩
abbrev cX13_drawn : ByteArray := prog_15_method_119_code
def yX13_drawn : MethodName := ⟨RX13, "drawn", "(II)I"⟩
abbrev cX13_odds : ByteArray := prog_15_method_120_code
def yX13_odds : MethodName := ⟨RX13, "odds", "(III)I"⟩
abbrev cX13_readNamed : ByteArray := prog_15_method_121_code
def yX13_readNamed : MethodName := ⟨RX13, "readNamed", "(II)Z"⟩
abbrev cX13_readCount : ByteArray := prog_15_method_122_code
def yX13_readCount : MethodName := ⟨RX13, "readCount", "(IIII)Z"⟩
abbrev cX13_readPersonDoes : ByteArray := prog_15_method_123_code
def yX13_readPersonDoes : MethodName := ⟨RX13, "readPersonDoes", "(I)Z"⟩
abbrev cX13_readGlassDoes : ByteArray := prog_15_method_124_code
def yX13_readGlassDoes : MethodName := ⟨RX13, "readGlassDoes", "(I)Z"⟩
abbrev cX13_readRollLine : ByteArray := prog_15_method_125_code
def yX13_readRollLine : MethodName := ⟨RX13, "readRollLine", "()Z"⟩
abbrev cX13_goBy : ByteArray := prog_15_method_126_code
def yX13_goBy : MethodName := ⟨RX13, "goBy", "(I)I"⟩
abbrev cX13_roll : ByteArray := prog_15_method_127_code
def yX13_roll : MethodName := ⟨RX13, "roll", "(I)I"⟩
abbrev cX13_stay : ByteArray := prog_15_method_128_code
def yX13_stay : MethodName := ⟨RX13, "stay", "(Z)V"⟩
abbrev cX13_rolled : ByteArray := prog_15_method_129_code
def yX13_rolled : MethodName := ⟨RX13, "rolled", "(I)I"⟩
abbrev cX13_saysOne : ByteArray := prog_15_method_130_code
def yX13_saysOne : MethodName := ⟨RX13, "saysOne", "(IIII)I"⟩
abbrev cX13_readOr : ByteArray := prog_15_method_131_code
def yX13_readOr : MethodName := ⟨RX13, "readOr", "()Z"⟩
abbrev cX13_readAnd : ByteArray := prog_15_method_132_code
def yX13_readAnd : MethodName := ⟨RX13, "readAnd", "()Z"⟩
abbrev cX13_readSaid : ByteArray := prog_15_method_133_code
def yX13_readSaid : MethodName := ⟨RX13, "readSaid", "()Z"⟩
abbrev cX13_readNot : ByteArray := prog_15_method_134_code
def yX13_readNot : MethodName := ⟨RX13, "readNot", "()Z"⟩
abbrev cX13_readBracket : ByteArray := prog_15_method_135_code
def yX13_readBracket : MethodName := ⟨RX13, "readBracket", "()Z"⟩
abbrev cX13_readOf : ByteArray := prog_15_method_136_code
def yX13_readOf : MethodName := ⟨RX13, "readOf", "(I)Z"⟩
abbrev cX13_readCompare : ByteArray := prog_15_method_137_code
def yX13_readCompare : MethodName := ⟨RX13, "readCompare", "(I)Z"⟩
abbrev cX13_sentence : ByteArray := prog_15_method_138_code
def yX13_sentence : MethodName := ⟨RX13, "sentence", "()I"⟩
abbrev cX13_holds : ByteArray := prog_15_method_139_code
def yX13_holds : MethodName := ⟨RX13, "holds", "(II)Z"⟩
abbrev cX13_said : ByteArray := prog_15_method_140_code
def yX13_said : MethodName := ⟨RX13, "said", "(I)I"⟩
abbrev cX13_image : ByteArray := prog_15_method_141_code
def yX13_image : MethodName := ⟨RX13, "image", "(I)Z"⟩
abbrev cX13_restore : ByteArray := prog_15_method_142_code
def yX13_restore : MethodName := ⟨RX13, "restore", "(I)Z"⟩
abbrev cX13_count : ByteArray := prog_15_method_143_code
def yX13_count : MethodName := ⟨RX13, "count", "(I)I"⟩
theorem dX13_thrown_0 : decode cX13_thrown 0 = .ok (.aload_n 0, 1) := by decide +kernel
theorem dX13_thrown_1 : decode cX13_thrown 1 = .ok (.getfield 1, 3) := by decide +kernel
theorem dX13_thrown_4 : decode cX13_thrown 4 = .ok (.ireturn, 1) := by decide +kernel
theorem dX13_refuse_0 : decode cX13_refuse 0 = .ok (.aload_n 0, 1) := by decide +kernel
theorem dX13_refuse_1 : decode cX13_refuse 1 = .ok (.iconst 1, 1) := by decide +kernel
theorem dX13_refuse_2 : decode cX13_refuse 2 = .ok (.putfield 1, 3) := by decide +kernel
theorem dX13_refuse_5 : decode cX13_refuse 5 = .ok (.iconst 0, 1) := by decide +kernel
theorem dX13_refuse_6 : decode cX13_refuse 6 = .ok (.ireturn, 1) := by decide +kernel
theorem dX13_come_0 : decode cX13_come 0 = .ok (.bipush 24, 2) := by decide +kernel
theorem dX13_come_2 : decode cX13_come 2 = .ok (.istore_n 2, 1) := by decide +kernel
theorem dX13_come_3 : decode cX13_come 3 = .ok (.iload_n 2, 1) := by decide +kernel
theorem dX13_come_4 : decode cX13_come 4 = .ok (.ifCond .lt 35, 3) := by decide +kernel
theorem dX13_come_7 : decode cX13_come 7 = .ok (.aload_n 0, 1) := by decide +kernel
theorem dX13_come_8 : decode cX13_come 8 = .ok (.getfield 7, 3) := by decide +kernel
theorem dX13_come_11 : decode cX13_come 11 = .ok (.aload_n 0, 1) := by decide +kernel
theorem dX13_come_12 : decode cX13_come 12 = .ok (.getfield 11, 3) := by decide +kernel
theorem dX13_come_15 : decode cX13_come 15 = .ok (.iload_n 1, 1) := by decide +kernel
theorem dX13_come_16 : decode cX13_come 16 = .ok (.iload_n 2, 1) := by decide +kernel
theorem dX13_come_17 : decode cX13_come 17 = .ok (.iushr, 1) := by decide +kernel
theorem dX13_come_18 : decode cX13_come 18 = .ok (.sipush 255, 3) := by decide +kernel
theorem dX13_come_21 : decode cX13_come 21 = .ok (.iand, 1) := by decide +kernel
theorem dX13_come_22 : decode cX13_come 22 = .ok (.iastore, 1) := by decide +kernel
theorem dX13_come_23 : decode cX13_come 23 = .ok (.aload_n 0, 1) := by decide +kernel
theorem dX13_come_24 : decode cX13_come 24 = .ok (.dup, 1) := by decide +kernel
theorem dX13_come_25 : decode cX13_come 25 = .ok (.getfield 11, 3) := by decide +kernel
theorem dX13_come_28 : decode cX13_come 28 = .ok (.iconst 1, 1) := by decide +kernel
theorem dX13_come_29 : decode cX13_come 29 = .ok (.iadd, 1) := by decide +kernel
theorem dX13_come_30 : decode cX13_come 30 = .ok (.putfield 11, 3) := by decide +kernel
theorem dX13_come_33 : decode cX13_come 33 = .ok (.iinc 2 (-8), 3) := by decide +kernel
theorem dX13_come_36 : decode cX13_come 36 = .ok (.goto (-33), 3) := by decide +kernel
theorem dX13_come_39 : decode cX13_come 39 = .ok (.return_, 1) := by decide +kernel
theorem dX13_feed_0 : decode cX13_feed 0 = .ok (.aload_n 0, 1) := by decide +kernel
theorem dX13_feed_1 : decode cX13_feed 1 = .ok (.iconst 0, 1) := by decide +kernel
theorem dX13_feed_2 : decode cX13_feed 2 = .ok (.putfield 1, 3) := by decide +kernel
theorem dX13_feed_5 : decode cX13_feed 5 = .ok (.aload_n 0, 1) := by decide +kernel
theorem dX13_feed_6 : decode cX13_feed 6 = .ok (.getfield 11, 3) := by decide +kernel
theorem dX13_feed_9 : decode cX13_feed 9 = .ok (.bipush 20, 2) := by decide +kernel
theorem dX13_feed_11 : decode cX13_feed 11 = .ok (.iadd, 1) := by decide +kernel
theorem dX13_feed_12 : decode cX13_feed 12 = .ok (.sipush 940, 3) := by decide +kernel
theorem dX13_feed_15 : decode cX13_feed 15 = .ok (.if_icmp .le 5, 3) := by decide +kernel
theorem dX13_feed_18 : decode cX13_feed 18 = .ok (.iconst (-1), 1) := by decide +kernel
theorem dX13_feed_19 : decode cX13_feed 19 = .ok (.ireturn, 1) := by decide +kernel
theorem dX13_feed_20 : decode cX13_feed 20 = .ok (.aload_n 0, 1) := by decide +kernel
theorem dX13_feed_21 : decode cX13_feed 21 = .ok (.iload_n 1, 1) := by decide +kernel
theorem dX13_feed_22 : decode cX13_feed 22 = .ok (.invokevirtual 14, 3) := by decide +kernel
theorem dX13_feed_25 : decode cX13_feed 25 = .ok (.aload_n 0, 1) := by decide +kernel
theorem dX13_feed_26 : decode cX13_feed 26 = .ok (.iload_n 2, 1) := by decide +kernel
theorem dX13_feed_27 : decode cX13_feed 27 = .ok (.invokevirtual 14, 3) := by decide +kernel
theorem dX13_feed_30 : decode cX13_feed 30 = .ok (.aload_n 0, 1) := by decide +kernel
theorem dX13_feed_31 : decode cX13_feed 31 = .ok (.iload_n 3, 1) := by decide +kernel
theorem dX13_feed_32 : decode cX13_feed 32 = .ok (.invokevirtual 14, 3) := by decide +kernel
theorem dX13_feed_35 : decode cX13_feed 35 = .ok (.aload_n 0, 1) := by decide +kernel
theorem dX13_feed_36 : decode cX13_feed 36 = .ok (.iload 4, 2) := by decide +kernel
theorem dX13_feed_38 : decode cX13_feed 38 = .ok (.invokevirtual 14, 3) := by decide +kernel
theorem dX13_feed_41 : decode cX13_feed 41 = .ok (.aload_n 0, 1) := by decide +kernel
theorem dX13_feed_42 : decode cX13_feed 42 = .ok (.iload 5, 2) := by decide +kernel
theorem dX13_feed_44 : decode cX13_feed 44 = .ok (.invokevirtual 14, 3) := by decide +kernel
theorem dX13_feed_47 : decode cX13_feed 47 = .ok (.aload_n 0, 1) := by decide +kernel
theorem dX13_feed_48 : decode cX13_feed 48 = .ok (.getfield 11, 3) := by decide +kernel
theorem dX13_feed_51 : decode cX13_feed 51 = .ok (.ireturn, 1) := by decide +kernel
theorem dX13_end_0 : decode cX13_end 0 = .ok (.aload_n 0, 1) := by decide +kernel
theorem dX13_end_1 : decode cX13_end 1 = .ok (.iconst 0, 1) := by decide +kernel
theorem dX13_end_2 : decode cX13_end 2 = .ok (.putfield 1, 3) := by decide +kernel
theorem dX13_end_5 : decode cX13_end 5 = .ok (.iload_n 1, 1) := by decide +kernel
theorem dX13_end_6 : decode cX13_end 6 = .ok (.ifCond .lt 11, 3) := by decide +kernel
theorem dX13_end_9 : decode cX13_end 9 = .ok (.iload_n 1, 1) := by decide +kernel
theorem dX13_end_10 : decode cX13_end 10 = .ok (.aload_n 0, 1) := by decide +kernel
theorem dX13_end_11 : decode cX13_end 11 = .ok (.getfield 11, 3) := by decide +kernel
theorem dX13_end_14 : decode cX13_end 14 = .ok (.if_icmp .le 5, 3) := by decide +kernel
theorem dX13_end_17 : decode cX13_end 17 = .ok (.iconst 0, 1) := by decide +kernel
theorem dX13_end_18 : decode cX13_end 18 = .ok (.ireturn, 1) := by decide +kernel
theorem dX13_end_19 : decode cX13_end 19 = .ok (.aload_n 0, 1) := by decide +kernel
theorem dX13_end_20 : decode cX13_end 20 = .ok (.iload_n 1, 1) := by decide +kernel
theorem dX13_end_21 : decode cX13_end 21 = .ok (.putfield 11, 3) := by decide +kernel
theorem dX13_end_24 : decode cX13_end 24 = .ok (.iconst 1, 1) := by decide +kernel
theorem dX13_end_25 : decode cX13_end 25 = .ok (.ireturn, 1) := by decide +kernel
theorem dX13_take_0 : decode cX13_take 0 = .ok (.aload_n 0, 1) := by decide +kernel
theorem dX13_take_1 : decode cX13_take 1 = .ok (.getfield 11, 3) := by decide +kernel
theorem dX13_take_4 : decode cX13_take 4 = .ok (.istore_n 1, 1) := by decide +kernel
theorem dX13_take_5 : decode cX13_take 5 = .ok (.aload_n 0, 1) := by decide +kernel
theorem dX13_take_6 : decode cX13_take 6 = .ok (.iconst 0, 1) := by decide +kernel
theorem dX13_take_7 : decode cX13_take 7 = .ok (.putfield 11, 3) := by decide +kernel
theorem dX13_take_10 : decode cX13_take 10 = .ok (.iload_n 1, 1) := by decide +kernel
theorem dX13_take_11 : decode cX13_take 11 = .ok (.ireturn, 1) := by decide +kernel
theorem dX13_isIn_0 : decode cX13_isIn 0 = .ok (.iload_n 0, 1) := by decide +kernel
theorem dX13_isIn_1 : decode cX13_isIn 1 = .ok (.iload_n 1, 1) := by decide +kernel
theorem dX13_isIn_2 : decode cX13_isIn 2 = .ok (.if_icmp .lt 12, 3) := by decide +kernel
theorem dX13_isIn_5 : decode cX13_isIn 5 = .ok (.iload_n 0, 1) := by decide +kernel
theorem dX13_isIn_6 : decode cX13_isIn 6 = .ok (.iload_n 2, 1) := by decide +kernel
theorem dX13_isIn_7 : decode cX13_isIn 7 = .ok (.if_icmp .gt 7, 3) := by decide +kernel
theorem dX13_isIn_10 : decode cX13_isIn 10 = .ok (.iconst 1, 1) := by decide +kernel
theorem dX13_isIn_11 : decode cX13_isIn 11 = .ok (.goto 4, 3) := by decide +kernel
theorem dX13_isIn_14 : decode cX13_isIn 14 = .ok (.iconst 0, 1) := by decide +kernel
theorem dX13_isIn_15 : decode cX13_isIn 15 = .ok (.ireturn, 1) := by decide +kernel
theorem dX13_has_0 : decode cX13_has 0 = .ok (.iload_n 0, 1) := by decide +kernel
theorem dX13_has_1 : decode cX13_has 1 = .ok (.iload_n 1, 1) := by decide +kernel
theorem dX13_has_2 : decode cX13_has 2 = .ok (.ishr, 1) := by decide +kernel
theorem dX13_has_3 : decode cX13_has 3 = .ok (.iconst 1, 1) := by decide +kernel
theorem dX13_has_4 : decode cX13_has 4 = .ok (.iand, 1) := by decide +kernel
theorem dX13_has_5 : decode cX13_has 5 = .ok (.iconst 1, 1) := by decide +kernel
theorem dX13_has_6 : decode cX13_has 6 = .ok (.if_icmp .ne 7, 3) := by decide +kernel
theorem dX13_has_9 : decode cX13_has 9 = .ok (.iconst 1, 1) := by decide +kernel
theorem dX13_has_10 : decode cX13_has 10 = .ok (.goto 4, 3) := by decide +kernel
theorem dX13_has_13 : decode cX13_has 13 = .ok (.iconst 0, 1) := by decide +kernel
theorem dX13_has_14 : decode cX13_has 14 = .ok (.ireturn, 1) := by decide +kernel
theorem dX13_least_0 : decode cX13_least 0 = .ok (.iload_n 0, 1) := by decide +kernel
theorem dX13_least_1 : decode cX13_least 1 = .ok (.iload_n 1, 1) := by decide +kernel
theorem dX13_least_2 : decode cX13_least 2 = .ok (.if_icmp .ge 7, 3) := by decide +kernel
theorem dX13_least_5 : decode cX13_least 5 = .ok (.iload_n 0, 1) := by decide +kernel
theorem dX13_least_6 : decode cX13_least 6 = .ok (.goto 4, 3) := by decide +kernel
theorem dX13_least_9 : decode cX13_least 9 = .ok (.iload_n 1, 1) := by decide +kernel
theorem dX13_least_10 : decode cX13_least 10 = .ok (.ireturn, 1) := by decide +kernel
theorem dX13_tapeAt_0 : decode cX13_tapeAt 0 = .ok (.iload_n 1, 1) := by decide +kernel
theorem dX13_tapeAt_1 : decode cX13_tapeAt 1 = .ok (.aload_n 0, 1) := by decide +kernel
theorem dX13_tapeAt_2 : decode cX13_tapeAt 2 = .ok (.getfield 18, 3) := by decide +kernel
theorem dX13_tapeAt_5 : decode cX13_tapeAt 5 = .ok (.if_icmp .ge 12, 3) := by decide +kernel
theorem dX13_tapeAt_8 : decode cX13_tapeAt 8 = .ok (.aload_n 0, 1) := by decide +kernel
theorem dX13_tapeAt_9 : decode cX13_tapeAt 9 = .ok (.getfield 7, 3) := by decide +kernel
theorem dX13_tapeAt_12 : decode cX13_tapeAt 12 = .ok (.iload_n 1, 1) := by decide +kernel
theorem dX13_tapeAt_13 : decode cX13_tapeAt 13 = .ok (.iaload, 1) := by decide +kernel
theorem dX13_tapeAt_14 : decode cX13_tapeAt 14 = .ok (.goto 4, 3) := by decide +kernel
theorem dX13_tapeAt_17 : decode cX13_tapeAt 17 = .ok (.iconst 0, 1) := by decide +kernel
theorem dX13_tapeAt_18 : decode cX13_tapeAt 18 = .ok (.ireturn, 1) := by decide +kernel
theorem dX13_isDigit_0 : decode cX13_isDigit 0 = .ok (.iload_n 0, 1) := by decide +kernel
theorem dX13_isDigit_1 : decode cX13_isDigit 1 = .ok (.bipush 48, 2) := by decide +kernel
theorem dX13_isDigit_3 : decode cX13_isDigit 3 = .ok (.if_icmp .lt 13, 3) := by decide +kernel
theorem dX13_isDigit_6 : decode cX13_isDigit 6 = .ok (.iload_n 0, 1) := by decide +kernel
theorem dX13_isDigit_7 : decode cX13_isDigit 7 = .ok (.bipush 57, 2) := by decide +kernel
theorem dX13_isDigit_9 : decode cX13_isDigit 9 = .ok (.if_icmp .gt 7, 3) := by decide +kernel
theorem dX13_isDigit_12 : decode cX13_isDigit 12 = .ok (.iconst 1, 1) := by decide +kernel
theorem dX13_isDigit_13 : decode cX13_isDigit 13 = .ok (.goto 4, 3) := by decide +kernel
theorem dX13_isDigit_16 : decode cX13_isDigit 16 = .ok (.iconst 0, 1) := by decide +kernel
theorem dX13_isDigit_17 : decode cX13_isDigit 17 = .ok (.ireturn, 1) := by decide +kernel
theorem dX13_isLetter_0 : decode cX13_isLetter 0 = .ok (.iload_n 0, 1) := by decide +kernel
theorem dX13_isLetter_1 : decode cX13_isLetter 1 = .ok (.bipush 97, 2) := by decide +kernel
theorem dX13_isLetter_3 : decode cX13_isLetter 3 = .ok (.if_icmp .lt 13, 3) := by decide +kernel
theorem dX13_isLetter_6 : decode cX13_isLetter 6 = .ok (.iload_n 0, 1) := by decide +kernel
theorem dX13_isLetter_7 : decode cX13_isLetter 7 = .ok (.bipush 122, 2) := by decide +kernel
theorem dX13_isLetter_9 : decode cX13_isLetter 9 = .ok (.if_icmp .gt 7, 3) := by decide +kernel
theorem dX13_isLetter_12 : decode cX13_isLetter 12 = .ok (.iconst 1, 1) := by decide +kernel
theorem dX13_isLetter_13 : decode cX13_isLetter 13 = .ok (.goto 4, 3) := by decide +kernel
theorem dX13_isLetter_16 : decode cX13_isLetter 16 = .ok (.iconst 0, 1) := by decide +kernel
theorem dX13_isLetter_17 : decode cX13_isLetter 17 = .ok (.ireturn, 1) := by decide +kernel
theorem dX13_go_0 : decode cX13_go 0 = .ok (.aload_n 0, 1) := by decide +kernel
theorem dX13_go_1 : decode cX13_go 1 = .ok (.getfield 21, 3) := by decide +kernel
theorem dX13_go_4 : decode cX13_go 4 = .ok (.aload_n 0, 1) := by decide +kernel
theorem dX13_go_5 : decode cX13_go 5 = .ok (.getfield 18, 3) := by decide +kernel
theorem dX13_go_8 : decode cX13_go 8 = .ok (.if_icmp .ge 44, 3) := by decide +kernel
theorem dX13_go_11 : decode cX13_go 11 = .ok (.aload_n 0, 1) := by decide +kernel
theorem dX13_go_12 : decode cX13_go 12 = .ok (.getfield 7, 3) := by decide +kernel
theorem dX13_go_15 : decode cX13_go 15 = .ok (.aload_n 0, 1) := by decide +kernel
theorem dX13_go_16 : decode cX13_go 16 = .ok (.getfield 21, 3) := by decide +kernel
theorem dX13_go_19 : decode cX13_go 19 = .ok (.iaload, 1) := by decide +kernel
theorem dX13_go_20 : decode cX13_go 20 = .ok (.bipush 32, 2) := by decide +kernel
theorem dX13_go_22 : decode cX13_go 22 = .ok (.if_icmp .eq 17, 3) := by decide +kernel
theorem dX13_go_25 : decode cX13_go 25 = .ok (.aload_n 0, 1) := by decide +kernel
theorem dX13_go_26 : decode cX13_go 26 = .ok (.getfield 7, 3) := by decide +kernel
theorem dX13_go_29 : decode cX13_go 29 = .ok (.aload_n 0, 1) := by decide +kernel
theorem dX13_go_30 : decode cX13_go 30 = .ok (.getfield 21, 3) := by decide +kernel
theorem dX13_go_33 : decode cX13_go 33 = .ok (.iaload, 1) := by decide +kernel
theorem dX13_go_34 : decode cX13_go 34 = .ok (.bipush 10, 2) := by decide +kernel
theorem dX13_go_36 : decode cX13_go 36 = .ok (.if_icmp .ne 16, 3) := by decide +kernel
theorem dX13_go_39 : decode cX13_go 39 = .ok (.aload_n 0, 1) := by decide +kernel
theorem dX13_go_40 : decode cX13_go 40 = .ok (.dup, 1) := by decide +kernel
theorem dX13_go_41 : decode cX13_go 41 = .ok (.getfield 21, 3) := by decide +kernel
theorem dX13_go_44 : decode cX13_go 44 = .ok (.iconst 1, 1) := by decide +kernel
theorem dX13_go_45 : decode cX13_go 45 = .ok (.iadd, 1) := by decide +kernel
theorem dX13_go_46 : decode cX13_go 46 = .ok (.putfield 21, 3) := by decide +kernel
theorem dX13_go_49 : decode cX13_go 49 = .ok (.goto (-49), 3) := by decide +kernel
theorem dX13_go_52 : decode cX13_go 52 = .ok (.aload_n 0, 1) := by decide +kernel
theorem dX13_go_53 : decode cX13_go 53 = .ok (.aload_n 0, 1) := by decide +kernel
theorem dX13_go_54 : decode cX13_go 54 = .ok (.getfield 21, 3) := by decide +kernel
theorem dX13_go_57 : decode cX13_go 57 = .ok (.putfield 24, 3) := by decide +kernel
theorem dX13_go_60 : decode cX13_go 60 = .ok (.aload_n 0, 1) := by decide +kernel
theorem dX13_go_61 : decode cX13_go 61 = .ok (.getfield 18, 3) := by decide +kernel
theorem dX13_go_64 : decode cX13_go 64 = .ok (.aload_n 0, 1) := by decide +kernel
theorem dX13_go_65 : decode cX13_go 65 = .ok (.getfield 27, 3) := by decide +kernel
theorem dX13_go_68 : decode cX13_go 68 = .ok (.if_icmp .le 28, 3) := by decide +kernel
theorem dX13_go_71 : decode cX13_go 71 = .ok (.aload_n 0, 1) := by decide +kernel
theorem dX13_go_72 : decode cX13_go 72 = .ok (.getfield 24, 3) := by decide +kernel
theorem dX13_go_75 : decode cX13_go 75 = .ok (.aload_n 0, 1) := by decide +kernel
theorem dX13_go_76 : decode cX13_go 76 = .ok (.getfield 27, 3) := by decide +kernel
theorem dX13_go_79 : decode cX13_go 79 = .ok (.if_icmp .lt 17, 3) := by decide +kernel
theorem dX13_go_82 : decode cX13_go 82 = .ok (.aload_n 0, 1) := by decide +kernel
theorem dX13_go_83 : decode cX13_go 83 = .ok (.aload_n 0, 1) := by decide +kernel
theorem dX13_go_84 : decode cX13_go 84 = .ok (.getfield 27, 3) := by decide +kernel
theorem dX13_go_87 : decode cX13_go 87 = .ok (.putfield 24, 3) := by decide +kernel
theorem dX13_go_90 : decode cX13_go 90 = .ok (.aload_n 0, 1) := by decide +kernel
theorem dX13_go_91 : decode cX13_go 91 = .ok (.iconst 1, 1) := by decide +kernel
theorem dX13_go_92 : decode cX13_go 92 = .ok (.putfield 30, 3) := by decide +kernel
theorem dX13_go_95 : decode cX13_go 95 = .ok (.return_, 1) := by decide +kernel
theorem dX13_go_96 : decode cX13_go 96 = .ok (.aload_n 0, 1) := by decide +kernel
theorem dX13_go_97 : decode cX13_go 97 = .ok (.getfield 21, 3) := by decide +kernel
theorem dX13_go_100 : decode cX13_go 100 = .ok (.aload_n 0, 1) := by decide +kernel
theorem dX13_go_101 : decode cX13_go 101 = .ok (.getfield 18, 3) := by decide +kernel
theorem dX13_go_104 : decode cX13_go 104 = .ok (.if_icmp .lt 9, 3) := by decide +kernel
theorem dX13_go_107 : decode cX13_go 107 = .ok (.aload_n 0, 1) := by decide +kernel
theorem dX13_go_108 : decode cX13_go 108 = .ok (.iconst 0, 1) := by decide +kernel
theorem dX13_go_109 : decode cX13_go 109 = .ok (.putfield 30, 3) := by decide +kernel
theorem dX13_go_112 : decode cX13_go 112 = .ok (.return_, 1) := by decide +kernel
theorem dX13_go_113 : decode cX13_go 113 = .ok (.aload_n 0, 1) := by decide +kernel
theorem dX13_go_114 : decode cX13_go 114 = .ok (.getfield 7, 3) := by decide +kernel
theorem dX13_go_117 : decode cX13_go 117 = .ok (.aload_n 0, 1) := by decide +kernel
theorem dX13_go_118 : decode cX13_go 118 = .ok (.getfield 21, 3) := by decide +kernel
theorem dX13_go_121 : decode cX13_go 121 = .ok (.iaload, 1) := by decide +kernel
theorem dX13_go_122 : decode cX13_go 122 = .ok (.istore_n 1, 1) := by decide +kernel
theorem dX13_go_123 : decode cX13_go 123 = .ok (.iload_n 1, 1) := by decide +kernel
theorem dX13_go_124 : decode cX13_go 124 = .ok (.invokestatic 33, 3) := by decide +kernel
theorem dX13_go_127 : decode cX13_go 127 = .ok (.ifCond .ne 71, 3) := by decide +kernel
theorem dX13_go_130 : decode cX13_go 130 = .ok (.iload_n 1, 1) := by decide +kernel
theorem dX13_go_131 : decode cX13_go 131 = .ok (.invokestatic 37, 3) := by decide +kernel
theorem dX13_go_134 : decode cX13_go 134 = .ok (.ifCond .ne 64, 3) := by decide +kernel
theorem dX13_go_137 : decode cX13_go 137 = .ok (.aload_n 0, 1) := by decide +kernel
theorem dX13_go_138 : decode cX13_go 138 = .ok (.iload_n 1, 1) := by decide +kernel
theorem dX13_go_139 : decode cX13_go 139 = .ok (.bipush 59, 2) := by decide +kernel
theorem dX13_go_141 : decode cX13_go 141 = .ok (.if_icmp .eq 33, 3) := by decide +kernel
theorem dX13_go_144 : decode cX13_go 144 = .ok (.iload_n 1, 1) := by decide +kernel
theorem dX13_go_145 : decode cX13_go 145 = .ok (.bipush 60, 2) := by decide +kernel
theorem dX13_go_147 : decode cX13_go 147 = .ok (.if_icmp .eq 27, 3) := by decide +kernel
theorem dX13_go_150 : decode cX13_go 150 = .ok (.iload_n 1, 1) := by decide +kernel
theorem dX13_go_151 : decode cX13_go 151 = .ok (.bipush 61, 2) := by decide +kernel
theorem dX13_go_153 : decode cX13_go 153 = .ok (.if_icmp .eq 21, 3) := by decide +kernel
theorem dX13_go_156 : decode cX13_go 156 = .ok (.iload_n 1, 1) := by decide +kernel
theorem dX13_go_157 : decode cX13_go 157 = .ok (.bipush 62, 2) := by decide +kernel
theorem dX13_go_159 : decode cX13_go 159 = .ok (.if_icmp .eq 15, 3) := by decide +kernel
theorem dX13_go_162 : decode cX13_go 162 = .ok (.iload_n 1, 1) := by decide +kernel
theorem dX13_go_163 : decode cX13_go 163 = .ok (.bipush 40, 2) := by decide +kernel
theorem dX13_go_165 : decode cX13_go 165 = .ok (.if_icmp .eq 9, 3) := by decide +kernel
theorem dX13_go_168 : decode cX13_go 168 = .ok (.iload_n 1, 1) := by decide +kernel
theorem dX13_go_169 : decode cX13_go 169 = .ok (.bipush 41, 2) := by decide +kernel
theorem dX13_go_171 : decode cX13_go 171 = .ok (.if_icmp .ne 7, 3) := by decide +kernel
theorem dX13_go_174 : decode cX13_go 174 = .ok (.iconst 4, 1) := by decide +kernel
theorem dX13_go_175 : decode cX13_go 175 = .ok (.goto 4, 3) := by decide +kernel
theorem dX13_go_178 : decode cX13_go 178 = .ok (.iconst 1, 1) := by decide +kernel
theorem dX13_go_179 : decode cX13_go 179 = .ok (.putfield 30, 3) := by decide +kernel
theorem dX13_go_182 : decode cX13_go 182 = .ok (.aload_n 0, 1) := by decide +kernel
theorem dX13_go_183 : decode cX13_go 183 = .ok (.iload_n 1, 1) := by decide +kernel
theorem dX13_go_184 : decode cX13_go 184 = .ok (.putfield 40, 3) := by decide +kernel
theorem dX13_go_187 : decode cX13_go 187 = .ok (.aload_n 0, 1) := by decide +kernel
theorem dX13_go_188 : decode cX13_go 188 = .ok (.dup, 1) := by decide +kernel
theorem dX13_go_189 : decode cX13_go 189 = .ok (.getfield 21, 3) := by decide +kernel
theorem dX13_go_192 : decode cX13_go 192 = .ok (.iconst 1, 1) := by decide +kernel
theorem dX13_go_193 : decode cX13_go 193 = .ok (.iadd, 1) := by decide +kernel
theorem dX13_go_194 : decode cX13_go 194 = .ok (.putfield 21, 3) := by decide +kernel
theorem dX13_go_197 : decode cX13_go 197 = .ok (.return_, 1) := by decide +kernel
theorem dX13_go_198 : decode cX13_go 198 = .ok (.iload_n 1, 1) := by decide +kernel
theorem dX13_go_199 : decode cX13_go 199 = .ok (.invokestatic 33, 3) := by decide +kernel
theorem dX13_go_202 : decode cX13_go 202 = .ok (.istore_n 2, 1) := by decide +kernel
theorem dX13_go_203 : decode cX13_go 203 = .ok (.iconst 1, 1) := by decide +kernel
theorem dX13_go_204 : decode cX13_go 204 = .ok (.istore_n 3, 1) := by decide +kernel
theorem dX13_go_205 : decode cX13_go 205 = .ok (.aload_n 0, 1) := by decide +kernel
theorem dX13_go_206 : decode cX13_go 206 = .ok (.lconst 0, 1) := by decide +kernel
theorem dX13_go_207 : decode cX13_go 207 = .ok (.putfield 43, 3) := by decide +kernel
theorem dX13_go_210 : decode cX13_go 210 = .ok (.aload_n 0, 1) := by decide +kernel
theorem dX13_go_211 : decode cX13_go 211 = .ok (.iconst 0, 1) := by decide +kernel
theorem dX13_go_212 : decode cX13_go 212 = .ok (.putfield 47, 3) := by decide +kernel
theorem dX13_go_215 : decode cX13_go 215 = .ok (.aload_n 0, 1) := by decide +kernel
theorem dX13_go_216 : decode cX13_go 216 = .ok (.aload_n 0, 1) := by decide +kernel
theorem dX13_go_217 : decode cX13_go 217 = .ok (.getfield 21, 3) := by decide +kernel
theorem dX13_go_220 : decode cX13_go 220 = .ok (.invokevirtual 50, 3) := by decide +kernel
theorem dX13_go_223 : decode cX13_go 223 = .ok (.invokestatic 33, 3) := by decide +kernel
theorem dX13_go_226 : decode cX13_go 226 = .ok (.ifCond .ne 17, 3) := by decide +kernel
theorem dX13_go_229 : decode cX13_go 229 = .ok (.aload_n 0, 1) := by decide +kernel
theorem dX13_go_230 : decode cX13_go 230 = .ok (.aload_n 0, 1) := by decide +kernel
theorem dX13_go_231 : decode cX13_go 231 = .ok (.getfield 21, 3) := by decide +kernel
theorem dX13_go_234 : decode cX13_go 234 = .ok (.invokevirtual 50, 3) := by decide +kernel
theorem dX13_go_237 : decode cX13_go 237 = .ok (.invokestatic 37, 3) := by decide +kernel
theorem dX13_go_240 : decode cX13_go 240 = .ok (.ifCond .eq 110, 3) := by decide +kernel
theorem dX13_go_243 : decode cX13_go 243 = .ok (.aload_n 0, 1) := by decide +kernel
theorem dX13_go_244 : decode cX13_go 244 = .ok (.getfield 7, 3) := by decide +kernel
theorem dX13_go_247 : decode cX13_go 247 = .ok (.aload_n 0, 1) := by decide +kernel
theorem dX13_go_248 : decode cX13_go 248 = .ok (.getfield 21, 3) := by decide +kernel
theorem dX13_go_251 : decode cX13_go 251 = .ok (.iaload, 1) := by decide +kernel
theorem dX13_go_252 : decode cX13_go 252 = .ok (.istore 4, 2) := by decide +kernel
theorem dX13_go_254 : decode cX13_go 254 = .ok (.iload_n 3, 1) := by decide +kernel
theorem dX13_go_255 : decode cX13_go 255 = .ok (.ifCond .eq 16, 3) := by decide +kernel
theorem dX13_go_258 : decode cX13_go 258 = .ok (.iload 4, 2) := by decide +kernel
theorem dX13_go_260 : decode cX13_go 260 = .ok (.invokestatic 33, 3) := by decide +kernel
theorem dX13_go_263 : decode cX13_go 263 = .ok (.iload_n 2, 1) := by decide +kernel
theorem dX13_go_264 : decode cX13_go 264 = .ok (.if_icmp .ne 7, 3) := by decide +kernel
theorem dX13_go_267 : decode cX13_go 267 = .ok (.iconst 1, 1) := by decide +kernel
theorem dX13_go_268 : decode cX13_go 268 = .ok (.goto 4, 3) := by decide +kernel
theorem dX13_go_271 : decode cX13_go 271 = .ok (.iconst 0, 1) := by decide +kernel
theorem dX13_go_272 : decode cX13_go 272 = .ok (.istore_n 3, 1) := by decide +kernel
theorem dX13_go_273 : decode cX13_go 273 = .ok (.aload_n 0, 1) := by decide +kernel
theorem dX13_go_274 : decode cX13_go 274 = .ok (.getfield 21, 3) := by decide +kernel
theorem dX13_go_277 : decode cX13_go 277 = .ok (.aload_n 0, 1) := by decide +kernel
theorem dX13_go_278 : decode cX13_go 278 = .ok (.getfield 24, 3) := by decide +kernel
theorem dX13_go_281 : decode cX13_go 281 = .ok (.isub, 1) := by decide +kernel
theorem dX13_go_282 : decode cX13_go 282 = .ok (.bipush 7, 2) := by decide +kernel
theorem dX13_go_284 : decode cX13_go 284 = .ok (.if_icmp .ge 23, 3) := by decide +kernel
theorem dX13_go_287 : decode cX13_go 287 = .ok (.aload_n 0, 1) := by decide +kernel
theorem dX13_go_288 : decode cX13_go 288 = .ok (.ldc2_w 54, 3) := by decide +kernel
theorem dX13_go_291 : decode cX13_go 291 = .ok (.aload_n 0, 1) := by decide +kernel
theorem dX13_go_292 : decode cX13_go 292 = .ok (.getfield 43, 3) := by decide +kernel
theorem dX13_go_295 : decode cX13_go 295 = .ok (.lmul, 1) := by decide +kernel
theorem dX13_go_296 : decode cX13_go 296 = .ok (.iload 4, 2) := by decide +kernel
theorem dX13_go_298 : decode cX13_go 298 = .ok (.i2l, 1) := by decide +kernel
theorem dX13_go_299 : decode cX13_go 299 = .ok (.ladd, 1) := by decide +kernel
theorem dX13_go_300 : decode cX13_go 300 = .ok (.ldc2_w 56, 3) := by decide +kernel
theorem dX13_go_303 : decode cX13_go 303 = .ok (.lsub, 1) := by decide +kernel
theorem dX13_go_304 : decode cX13_go 304 = .ok (.putfield 43, 3) := by decide +kernel
theorem dX13_go_307 : decode cX13_go 307 = .ok (.aload_n 0, 1) := by decide +kernel
theorem dX13_go_308 : decode cX13_go 308 = .ok (.getfield 21, 3) := by decide +kernel
theorem dX13_go_311 : decode cX13_go 311 = .ok (.aload_n 0, 1) := by decide +kernel
theorem dX13_go_312 : decode cX13_go 312 = .ok (.getfield 24, 3) := by decide +kernel
theorem dX13_go_315 : decode cX13_go 315 = .ok (.isub, 1) := by decide +kernel
theorem dX13_go_316 : decode cX13_go 316 = .ok (.iconst 3, 1) := by decide +kernel
theorem dX13_go_317 : decode cX13_go 317 = .ok (.if_icmp .ge 20, 3) := by decide +kernel
theorem dX13_go_320 : decode cX13_go 320 = .ok (.aload_n 0, 1) := by decide +kernel
theorem dX13_go_321 : decode cX13_go 321 = .ok (.bipush 10, 2) := by decide +kernel
theorem dX13_go_323 : decode cX13_go 323 = .ok (.aload_n 0, 1) := by decide +kernel
theorem dX13_go_324 : decode cX13_go 324 = .ok (.getfield 47, 3) := by decide +kernel
theorem dX13_go_327 : decode cX13_go 327 = .ok (.imul, 1) := by decide +kernel
theorem dX13_go_328 : decode cX13_go 328 = .ok (.iload 4, 2) := by decide +kernel
theorem dX13_go_330 : decode cX13_go 330 = .ok (.iadd, 1) := by decide +kernel
theorem dX13_go_331 : decode cX13_go 331 = .ok (.bipush 48, 2) := by decide +kernel
theorem dX13_go_333 : decode cX13_go 333 = .ok (.isub, 1) := by decide +kernel
theorem dX13_go_334 : decode cX13_go 334 = .ok (.putfield 47, 3) := by decide +kernel
theorem dX13_go_337 : decode cX13_go 337 = .ok (.aload_n 0, 1) := by decide +kernel
theorem dX13_go_338 : decode cX13_go 338 = .ok (.dup, 1) := by decide +kernel
theorem dX13_go_339 : decode cX13_go 339 = .ok (.getfield 21, 3) := by decide +kernel
theorem dX13_go_342 : decode cX13_go 342 = .ok (.iconst 1, 1) := by decide +kernel
theorem dX13_go_343 : decode cX13_go 343 = .ok (.iadd, 1) := by decide +kernel
theorem dX13_go_344 : decode cX13_go 344 = .ok (.putfield 21, 3) := by decide +kernel
theorem dX13_go_347 : decode cX13_go 347 = .ok (.goto (-132), 3) := by decide +kernel
theorem dX13_go_350 : decode cX13_go 350 = .ok (.aload_n 0, 1) := by decide +kernel
theorem dX13_go_351 : decode cX13_go 351 = .ok (.iload_n 3, 1) := by decide +kernel
theorem dX13_go_352 : decode cX13_go 352 = .ok (.ifCond .eq 25, 3) := by decide +kernel
theorem dX13_go_355 : decode cX13_go 355 = .ok (.aload_n 0, 1) := by decide +kernel
theorem dX13_go_356 : decode cX13_go 356 = .ok (.getfield 21, 3) := by decide +kernel
theorem dX13_go_359 : decode cX13_go 359 = .ok (.aload_n 0, 1) := by decide +kernel
theorem dX13_go_360 : decode cX13_go 360 = .ok (.getfield 24, 3) := by decide +kernel
theorem dX13_go_363 : decode cX13_go 363 = .ok (.isub, 1) := by decide +kernel
theorem dX13_go_364 : decode cX13_go 364 = .ok (.iload_n 2, 1) := by decide +kernel
theorem dX13_go_365 : decode cX13_go 365 = .ok (.ifCond .eq 8, 3) := by decide +kernel
theorem dX13_go_368 : decode cX13_go 368 = .ok (.bipush 7, 2) := by decide +kernel
theorem dX13_go_370 : decode cX13_go 370 = .ok (.goto 4, 3) := by decide +kernel
theorem dX13_go_373 : decode cX13_go 373 = .ok (.iconst 3, 1) := by decide +kernel
theorem dX13_go_374 : decode cX13_go 374 = .ok (.if_icmp .le 7, 3) := by decide +kernel
theorem dX13_go_377 : decode cX13_go 377 = .ok (.iconst 1, 1) := by decide +kernel
theorem dX13_go_378 : decode cX13_go 378 = .ok (.goto 12, 3) := by decide +kernel
theorem dX13_go_381 : decode cX13_go 381 = .ok (.iload_n 2, 1) := by decide +kernel
theorem dX13_go_382 : decode cX13_go 382 = .ok (.ifCond .eq 7, 3) := by decide +kernel
theorem dX13_go_385 : decode cX13_go 385 = .ok (.iconst 2, 1) := by decide +kernel
theorem dX13_go_386 : decode cX13_go 386 = .ok (.goto 4, 3) := by decide +kernel
theorem dX13_go_389 : decode cX13_go 389 = .ok (.iconst 3, 1) := by decide +kernel
theorem dX13_go_390 : decode cX13_go 390 = .ok (.putfield 30, 3) := by decide +kernel
theorem dX13_go_393 : decode cX13_go 393 = .ok (.return_, 1) := by decide +kernel
theorem dX13_spelt_0 : decode cX13_spelt 0 = .ok (.ldc2_w 54, 3) := by decide +kernel
theorem dX13_spelt_3 : decode cX13_spelt 3 = .ok (.iload_n 0, 1) := by decide +kernel
theorem dX13_spelt_4 : decode cX13_spelt 4 = .ok (.i2l, 1) := by decide +kernel
theorem dX13_spelt_5 : decode cX13_spelt 5 = .ok (.ldc2_w 56, 3) := by decide +kernel
theorem dX13_spelt_8 : decode cX13_spelt 8 = .ok (.lsub, 1) := by decide +kernel
theorem dX13_spelt_9 : decode cX13_spelt 9 = .ok (.lmul, 1) := by decide +kernel
theorem dX13_spelt_10 : decode cX13_spelt 10 = .ok (.iload_n 1, 1) := by decide +kernel
theorem dX13_spelt_11 : decode cX13_spelt 11 = .ok (.i2l, 1) := by decide +kernel
theorem dX13_spelt_12 : decode cX13_spelt 12 = .ok (.ladd, 1) := by decide +kernel
theorem dX13_spelt_13 : decode cX13_spelt 13 = .ok (.ldc2_w 56, 3) := by decide +kernel
theorem dX13_spelt_16 : decode cX13_spelt 16 = .ok (.lsub, 1) := by decide +kernel
theorem dX13_spelt_17 : decode cX13_spelt 17 = .ok (.lstore 6, 2) := by decide +kernel
theorem dX13_spelt_19 : decode cX13_spelt 19 = .ok (.iload_n 2, 1) := by decide +kernel
theorem dX13_spelt_20 : decode cX13_spelt 20 = .ok (.ifCond .le 18, 3) := by decide +kernel
theorem dX13_spelt_23 : decode cX13_spelt 23 = .ok (.ldc2_w 54, 3) := by decide +kernel
theorem dX13_spelt_26 : decode cX13_spelt 26 = .ok (.lload 6, 2) := by decide +kernel
theorem dX13_spelt_28 : decode cX13_spelt 28 = .ok (.lmul, 1) := by decide +kernel
theorem dX13_spelt_29 : decode cX13_spelt 29 = .ok (.iload_n 2, 1) := by decide +kernel
theorem dX13_spelt_30 : decode cX13_spelt 30 = .ok (.i2l, 1) := by decide +kernel
theorem dX13_spelt_31 : decode cX13_spelt 31 = .ok (.ladd, 1) := by decide +kernel
theorem dX13_spelt_32 : decode cX13_spelt 32 = .ok (.ldc2_w 56, 3) := by decide +kernel
theorem dX13_spelt_35 : decode cX13_spelt 35 = .ok (.lsub, 1) := by decide +kernel
theorem dX13_spelt_36 : decode cX13_spelt 36 = .ok (.lstore 6, 2) := by decide +kernel
theorem dX13_spelt_38 : decode cX13_spelt 38 = .ok (.iload_n 3, 1) := by decide +kernel
theorem dX13_spelt_39 : decode cX13_spelt 39 = .ok (.ifCond .le 18, 3) := by decide +kernel
theorem dX13_spelt_42 : decode cX13_spelt 42 = .ok (.ldc2_w 54, 3) := by decide +kernel
theorem dX13_spelt_45 : decode cX13_spelt 45 = .ok (.lload 6, 2) := by decide +kernel
theorem dX13_spelt_47 : decode cX13_spelt 47 = .ok (.lmul, 1) := by decide +kernel
theorem dX13_spelt_48 : decode cX13_spelt 48 = .ok (.iload_n 3, 1) := by decide +kernel
theorem dX13_spelt_49 : decode cX13_spelt 49 = .ok (.i2l, 1) := by decide +kernel
theorem dX13_spelt_50 : decode cX13_spelt 50 = .ok (.ladd, 1) := by decide +kernel
theorem dX13_spelt_51 : decode cX13_spelt 51 = .ok (.ldc2_w 56, 3) := by decide +kernel
theorem dX13_spelt_54 : decode cX13_spelt 54 = .ok (.lsub, 1) := by decide +kernel
theorem dX13_spelt_55 : decode cX13_spelt 55 = .ok (.lstore 6, 2) := by decide +kernel
theorem dX13_spelt_57 : decode cX13_spelt 57 = .ok (.iload 4, 2) := by decide +kernel
theorem dX13_spelt_59 : decode cX13_spelt 59 = .ok (.ifCond .le 19, 3) := by decide +kernel
theorem dX13_spelt_62 : decode cX13_spelt 62 = .ok (.ldc2_w 54, 3) := by decide +kernel
theorem dX13_spelt_65 : decode cX13_spelt 65 = .ok (.lload 6, 2) := by decide +kernel
theorem dX13_spelt_67 : decode cX13_spelt 67 = .ok (.lmul, 1) := by decide +kernel
theorem dX13_spelt_68 : decode cX13_spelt 68 = .ok (.iload 4, 2) := by decide +kernel
theorem dX13_spelt_70 : decode cX13_spelt 70 = .ok (.i2l, 1) := by decide +kernel
theorem dX13_spelt_71 : decode cX13_spelt 71 = .ok (.ladd, 1) := by decide +kernel
theorem dX13_spelt_72 : decode cX13_spelt 72 = .ok (.ldc2_w 56, 3) := by decide +kernel
theorem dX13_spelt_75 : decode cX13_spelt 75 = .ok (.lsub, 1) := by decide +kernel
theorem dX13_spelt_76 : decode cX13_spelt 76 = .ok (.lstore 6, 2) := by decide +kernel
theorem dX13_spelt_78 : decode cX13_spelt 78 = .ok (.iload 5, 2) := by decide +kernel
theorem dX13_spelt_80 : decode cX13_spelt 80 = .ok (.ifCond .le 19, 3) := by decide +kernel
theorem dX13_spelt_83 : decode cX13_spelt 83 = .ok (.ldc2_w 54, 3) := by decide +kernel
theorem dX13_spelt_86 : decode cX13_spelt 86 = .ok (.lload 6, 2) := by decide +kernel
theorem dX13_spelt_88 : decode cX13_spelt 88 = .ok (.lmul, 1) := by decide +kernel
theorem dX13_spelt_89 : decode cX13_spelt 89 = .ok (.iload 5, 2) := by decide +kernel
theorem dX13_spelt_91 : decode cX13_spelt 91 = .ok (.i2l, 1) := by decide +kernel
theorem dX13_spelt_92 : decode cX13_spelt 92 = .ok (.ladd, 1) := by decide +kernel
theorem dX13_spelt_93 : decode cX13_spelt 93 = .ok (.ldc2_w 56, 3) := by decide +kernel
theorem dX13_spelt_96 : decode cX13_spelt 96 = .ok (.lsub, 1) := by decide +kernel
theorem dX13_spelt_97 : decode cX13_spelt 97 = .ok (.lstore 6, 2) := by decide +kernel
theorem dX13_spelt_99 : decode cX13_spelt 99 = .ok (.lload 6, 2) := by decide +kernel
theorem dX13_spelt_101 : decode cX13_spelt 101 = .ok (.lreturn, 1) := by decide +kernel
theorem dX13_wordOf_0 : decode cX13_wordOf 0 = .ok (.iload_n 0, 1) := by decide +kernel
theorem dX13_wordOf_1 : decode cX13_wordOf 1 = .ok (.tableswitch 533 0 27 #[127, 143, 158, 173, 188, 202, 216, 231, 245, 260, 275, 290, 305, 319, 334, 350, 366, 380, 392, 405, 418, 434, 447, 463, 477, 489, 503, 517], 127) := by decide +kernel
theorem dX13_wordOf_128 : decode cX13_wordOf 128 = .ok (.bipush 112, 2) := by decide +kernel
theorem dX13_wordOf_130 : decode cX13_wordOf 130 = .ok (.bipush 101, 2) := by decide +kernel
theorem dX13_wordOf_132 : decode cX13_wordOf 132 = .ok (.bipush 114, 2) := by decide +kernel
theorem dX13_wordOf_134 : decode cX13_wordOf 134 = .ok (.bipush 115, 2) := by decide +kernel
theorem dX13_wordOf_136 : decode cX13_wordOf 136 = .ok (.bipush 111, 2) := by decide +kernel
theorem dX13_wordOf_138 : decode cX13_wordOf 138 = .ok (.bipush 110, 2) := by decide +kernel
theorem dX13_wordOf_140 : decode cX13_wordOf 140 = .ok (.invokestatic 58, 3) := by decide +kernel
theorem dX13_wordOf_143 : decode cX13_wordOf 143 = .ok (.lreturn, 1) := by decide +kernel
theorem dX13_wordOf_144 : decode cX13_wordOf 144 = .ok (.bipush 119, 2) := by decide +kernel
theorem dX13_wordOf_146 : decode cX13_wordOf 146 = .ok (.bipush 97, 2) := by decide +kernel
theorem dX13_wordOf_148 : decode cX13_wordOf 148 = .ok (.bipush 114, 2) := by decide +kernel
theorem dX13_wordOf_150 : decode cX13_wordOf 150 = .ok (.bipush 109, 2) := by decide +kernel
theorem dX13_wordOf_152 : decode cX13_wordOf 152 = .ok (.bipush 115, 2) := by decide +kernel
theorem dX13_wordOf_154 : decode cX13_wordOf 154 = .ok (.iconst 0, 1) := by decide +kernel
theorem dX13_wordOf_155 : decode cX13_wordOf 155 = .ok (.invokestatic 58, 3) := by decide +kernel
theorem dX13_wordOf_158 : decode cX13_wordOf 158 = .ok (.lreturn, 1) := by decide +kernel
theorem dX13_wordOf_159 : decode cX13_wordOf 159 = .ok (.bipush 99, 2) := by decide +kernel
theorem dX13_wordOf_161 : decode cX13_wordOf 161 = .ok (.bipush 111, 2) := by decide +kernel
theorem dX13_wordOf_163 : decode cX13_wordOf 163 = .ok (.bipush 111, 2) := by decide +kernel
theorem dX13_wordOf_165 : decode cX13_wordOf 165 = .ok (.bipush 108, 2) := by decide +kernel
theorem dX13_wordOf_167 : decode cX13_wordOf 167 = .ok (.bipush 115, 2) := by decide +kernel
theorem dX13_wordOf_169 : decode cX13_wordOf 169 = .ok (.iconst 0, 1) := by decide +kernel
theorem dX13_wordOf_170 : decode cX13_wordOf 170 = .ok (.invokestatic 58, 3) := by decide +kernel
theorem dX13_wordOf_173 : decode cX13_wordOf 173 = .ok (.lreturn, 1) := by decide +kernel
theorem dX13_wordOf_174 : decode cX13_wordOf 174 = .ok (.bipush 103, 2) := by decide +kernel
theorem dX13_wordOf_176 : decode cX13_wordOf 176 = .ok (.bipush 108, 2) := by decide +kernel
theorem dX13_wordOf_178 : decode cX13_wordOf 178 = .ok (.bipush 97, 2) := by decide +kernel
theorem dX13_wordOf_180 : decode cX13_wordOf 180 = .ok (.bipush 115, 2) := by decide +kernel
theorem dX13_wordOf_182 : decode cX13_wordOf 182 = .ok (.bipush 115, 2) := by decide +kernel
theorem dX13_wordOf_184 : decode cX13_wordOf 184 = .ok (.iconst 0, 1) := by decide +kernel
theorem dX13_wordOf_185 : decode cX13_wordOf 185 = .ok (.invokestatic 58, 3) := by decide +kernel
theorem dX13_wordOf_188 : decode cX13_wordOf 188 = .ok (.lreturn, 1) := by decide +kernel
theorem dX13_wordOf_189 : decode cX13_wordOf 189 = .ok (.bipush 100, 2) := by decide +kernel
theorem dX13_wordOf_191 : decode cX13_wordOf 191 = .ok (.bipush 97, 2) := by decide +kernel
theorem dX13_wordOf_193 : decode cX13_wordOf 193 = .ok (.bipush 109, 2) := by decide +kernel
theorem dX13_wordOf_195 : decode cX13_wordOf 195 = .ok (.bipush 112, 2) := by decide +kernel
theorem dX13_wordOf_197 : decode cX13_wordOf 197 = .ok (.iconst 0, 1) := by decide +kernel
theorem dX13_wordOf_198 : decode cX13_wordOf 198 = .ok (.iconst 0, 1) := by decide +kernel
theorem dX13_wordOf_199 : decode cX13_wordOf 199 = .ok (.invokestatic 58, 3) := by decide +kernel
theorem dX13_wordOf_202 : decode cX13_wordOf 202 = .ok (.lreturn, 1) := by decide +kernel
theorem dX13_wordOf_203 : decode cX13_wordOf 203 = .ok (.bipush 103, 2) := by decide +kernel
theorem dX13_wordOf_205 : decode cX13_wordOf 205 = .ok (.bipush 111, 2) := by decide +kernel
theorem dX13_wordOf_207 : decode cX13_wordOf 207 = .ok (.bipush 111, 2) := by decide +kernel
theorem dX13_wordOf_209 : decode cX13_wordOf 209 = .ok (.bipush 100, 2) := by decide +kernel
theorem dX13_wordOf_211 : decode cX13_wordOf 211 = .ok (.iconst 0, 1) := by decide +kernel
theorem dX13_wordOf_212 : decode cX13_wordOf 212 = .ok (.iconst 0, 1) := by decide +kernel
theorem dX13_wordOf_213 : decode cX13_wordOf 213 = .ok (.invokestatic 58, 3) := by decide +kernel
theorem dX13_wordOf_216 : decode cX13_wordOf 216 = .ok (.lreturn, 1) := by decide +kernel
theorem dX13_wordOf_217 : decode cX13_wordOf 217 = .ok (.bipush 103, 2) := by decide +kernel
theorem dX13_wordOf_219 : decode cX13_wordOf 219 = .ok (.bipush 114, 2) := by decide +kernel
theorem dX13_wordOf_221 : decode cX13_wordOf 221 = .ok (.bipush 97, 2) := by decide +kernel
theorem dX13_wordOf_223 : decode cX13_wordOf 223 = .ok (.bipush 99, 2) := by decide +kernel
theorem dX13_wordOf_225 : decode cX13_wordOf 225 = .ok (.bipush 101, 2) := by decide +kernel
theorem dX13_wordOf_227 : decode cX13_wordOf 227 = .ok (.iconst 0, 1) := by decide +kernel
theorem dX13_wordOf_228 : decode cX13_wordOf 228 = .ok (.invokestatic 58, 3) := by decide +kernel
theorem dX13_wordOf_231 : decode cX13_wordOf 231 = .ok (.lreturn, 1) := by decide +kernel
theorem dX13_wordOf_232 : decode cX13_wordOf 232 = .ok (.bipush 119, 2) := by decide +kernel
theorem dX13_wordOf_234 : decode cX13_wordOf 234 = .ok (.bipush 105, 2) := by decide +kernel
theorem dX13_wordOf_236 : decode cX13_wordOf 236 = .ok (.bipush 115, 2) := by decide +kernel
theorem dX13_wordOf_238 : decode cX13_wordOf 238 = .ok (.bipush 104, 2) := by decide +kernel
theorem dX13_wordOf_240 : decode cX13_wordOf 240 = .ok (.iconst 0, 1) := by decide +kernel
theorem dX13_wordOf_241 : decode cX13_wordOf 241 = .ok (.iconst 0, 1) := by decide +kernel
theorem dX13_wordOf_242 : decode cX13_wordOf 242 = .ok (.invokestatic 58, 3) := by decide +kernel
theorem dX13_wordOf_245 : decode cX13_wordOf 245 = .ok (.lreturn, 1) := by decide +kernel
theorem dX13_wordOf_246 : decode cX13_wordOf 246 = .ok (.bipush 101, 2) := by decide +kernel
theorem dX13_wordOf_248 : decode cX13_wordOf 248 = .ok (.bipush 97, 2) := by decide +kernel
theorem dX13_wordOf_250 : decode cX13_wordOf 250 = .ok (.bipush 114, 2) := by decide +kernel
theorem dX13_wordOf_252 : decode cX13_wordOf 252 = .ok (.bipush 108, 2) := by decide +kernel
theorem dX13_wordOf_254 : decode cX13_wordOf 254 = .ok (.bipush 121, 2) := by decide +kernel
theorem dX13_wordOf_256 : decode cX13_wordOf 256 = .ok (.iconst 0, 1) := by decide +kernel
theorem dX13_wordOf_257 : decode cX13_wordOf 257 = .ok (.invokestatic 58, 3) := by decide +kernel
theorem dX13_wordOf_260 : decode cX13_wordOf 260 = .ok (.lreturn, 1) := by decide +kernel
theorem dX13_wordOf_261 : decode cX13_wordOf 261 = .ok (.bipush 108, 2) := by decide +kernel
theorem dX13_wordOf_263 : decode cX13_wordOf 263 = .ok (.bipush 101, 2) := by decide +kernel
theorem dX13_wordOf_265 : decode cX13_wordOf 265 = .ok (.bipush 118, 2) := by decide +kernel
theorem dX13_wordOf_267 : decode cX13_wordOf 267 = .ok (.bipush 101, 2) := by decide +kernel
theorem dX13_wordOf_269 : decode cX13_wordOf 269 = .ok (.bipush 108, 2) := by decide +kernel
theorem dX13_wordOf_271 : decode cX13_wordOf 271 = .ok (.iconst 0, 1) := by decide +kernel
theorem dX13_wordOf_272 : decode cX13_wordOf 272 = .ok (.invokestatic 58, 3) := by decide +kernel
theorem dX13_wordOf_275 : decode cX13_wordOf 275 = .ok (.lreturn, 1) := by decide +kernel
theorem dX13_wordOf_276 : decode cX13_wordOf 276 = .ok (.bipush 116, 2) := by decide +kernel
theorem dX13_wordOf_278 : decode cX13_wordOf 278 = .ok (.bipush 117, 2) := by decide +kernel
theorem dX13_wordOf_280 : decode cX13_wordOf 280 = .ok (.bipush 114, 2) := by decide +kernel
theorem dX13_wordOf_282 : decode cX13_wordOf 282 = .ok (.bipush 110, 2) := by decide +kernel
theorem dX13_wordOf_284 : decode cX13_wordOf 284 = .ok (.bipush 115, 2) := by decide +kernel
theorem dX13_wordOf_286 : decode cX13_wordOf 286 = .ok (.iconst 0, 1) := by decide +kernel
theorem dX13_wordOf_287 : decode cX13_wordOf 287 = .ok (.invokestatic 58, 3) := by decide +kernel
theorem dX13_wordOf_290 : decode cX13_wordOf 290 = .ok (.lreturn, 1) := by decide +kernel
theorem dX13_wordOf_291 : decode cX13_wordOf 291 = .ok (.bipush 119, 2) := by decide +kernel
theorem dX13_wordOf_293 : decode cX13_wordOf 293 = .ok (.bipush 97, 2) := by decide +kernel
theorem dX13_wordOf_295 : decode cX13_wordOf 295 = .ok (.bipush 107, 2) := by decide +kernel
theorem dX13_wordOf_297 : decode cX13_wordOf 297 = .ok (.bipush 101, 2) := by decide +kernel
theorem dX13_wordOf_299 : decode cX13_wordOf 299 = .ok (.bipush 115, 2) := by decide +kernel
theorem dX13_wordOf_301 : decode cX13_wordOf 301 = .ok (.iconst 0, 1) := by decide +kernel
theorem dX13_wordOf_302 : decode cX13_wordOf 302 = .ok (.invokestatic 58, 3) := by decide +kernel
theorem dX13_wordOf_305 : decode cX13_wordOf 305 = .ok (.lreturn, 1) := by decide +kernel
theorem dX13_wordOf_306 : decode cX13_wordOf 306 = .ok (.bipush 119, 2) := by decide +kernel
theorem dX13_wordOf_308 : decode cX13_wordOf 308 = .ok (.bipush 111, 2) := by decide +kernel
theorem dX13_wordOf_310 : decode cX13_wordOf 310 = .ok (.bipush 111, 2) := by decide +kernel
theorem dX13_wordOf_312 : decode cX13_wordOf 312 = .ok (.bipush 115, 2) := by decide +kernel
theorem dX13_wordOf_314 : decode cX13_wordOf 314 = .ok (.iconst 0, 1) := by decide +kernel
theorem dX13_wordOf_315 : decode cX13_wordOf 315 = .ok (.iconst 0, 1) := by decide +kernel
theorem dX13_wordOf_316 : decode cX13_wordOf 316 = .ok (.invokestatic 58, 3) := by decide +kernel
theorem dX13_wordOf_319 : decode cX13_wordOf 319 = .ok (.lreturn, 1) := by decide +kernel
theorem dX13_wordOf_320 : decode cX13_wordOf 320 = .ok (.bipush 116, 2) := by decide +kernel
theorem dX13_wordOf_322 : decode cX13_wordOf 322 = .ok (.bipush 105, 2) := by decide +kernel
theorem dX13_wordOf_324 : decode cX13_wordOf 324 = .ok (.bipush 108, 2) := by decide +kernel
theorem dX13_wordOf_326 : decode cX13_wordOf 326 = .ok (.bipush 116, 2) := by decide +kernel
theorem dX13_wordOf_328 : decode cX13_wordOf 328 = .ok (.bipush 115, 2) := by decide +kernel
theorem dX13_wordOf_330 : decode cX13_wordOf 330 = .ok (.iconst 0, 1) := by decide +kernel
theorem dX13_wordOf_331 : decode cX13_wordOf 331 = .ok (.invokestatic 58, 3) := by decide +kernel
theorem dX13_wordOf_334 : decode cX13_wordOf 334 = .ok (.lreturn, 1) := by decide +kernel
theorem dX13_wordOf_335 : decode cX13_wordOf 335 = .ok (.bipush 119, 2) := by decide +kernel
theorem dX13_wordOf_337 : decode cX13_wordOf 337 = .ok (.bipush 105, 2) := by decide +kernel
theorem dX13_wordOf_339 : decode cX13_wordOf 339 = .ok (.bipush 100, 2) := by decide +kernel
theorem dX13_wordOf_341 : decode cX13_wordOf 341 = .ok (.bipush 101, 2) := by decide +kernel
theorem dX13_wordOf_343 : decode cX13_wordOf 343 = .ok (.bipush 110, 2) := by decide +kernel
theorem dX13_wordOf_345 : decode cX13_wordOf 345 = .ok (.bipush 115, 2) := by decide +kernel
theorem dX13_wordOf_347 : decode cX13_wordOf 347 = .ok (.invokestatic 58, 3) := by decide +kernel
theorem dX13_wordOf_350 : decode cX13_wordOf 350 = .ok (.lreturn, 1) := by decide +kernel
theorem dX13_wordOf_351 : decode cX13_wordOf 351 = .ok (.bipush 115, 2) := by decide +kernel
theorem dX13_wordOf_353 : decode cX13_wordOf 353 = .ok (.bipush 112, 2) := by decide +kernel
theorem dX13_wordOf_355 : decode cX13_wordOf 355 = .ok (.bipush 105, 2) := by decide +kernel
theorem dX13_wordOf_357 : decode cX13_wordOf 357 = .ok (.bipush 108, 2) := by decide +kernel
theorem dX13_wordOf_359 : decode cX13_wordOf 359 = .ok (.bipush 108, 2) := by decide +kernel
theorem dX13_wordOf_361 : decode cX13_wordOf 361 = .ok (.bipush 115, 2) := by decide +kernel
theorem dX13_wordOf_363 : decode cX13_wordOf 363 = .ok (.invokestatic 58, 3) := by decide +kernel
theorem dX13_wordOf_366 : decode cX13_wordOf 366 = .ok (.lreturn, 1) := by decide +kernel
theorem dX13_wordOf_367 : decode cX13_wordOf 367 = .ok (.bipush 104, 2) := by decide +kernel
theorem dX13_wordOf_369 : decode cX13_wordOf 369 = .ok (.bipush 111, 2) := by decide +kernel
theorem dX13_wordOf_371 : decode cX13_wordOf 371 = .ok (.bipush 117, 2) := by decide +kernel
theorem dX13_wordOf_373 : decode cX13_wordOf 373 = .ok (.bipush 114, 2) := by decide +kernel
theorem dX13_wordOf_375 : decode cX13_wordOf 375 = .ok (.iconst 0, 1) := by decide +kernel
theorem dX13_wordOf_376 : decode cX13_wordOf 376 = .ok (.iconst 0, 1) := by decide +kernel
theorem dX13_wordOf_377 : decode cX13_wordOf 377 = .ok (.invokestatic 58, 3) := by decide +kernel
theorem dX13_wordOf_380 : decode cX13_wordOf 380 = .ok (.lreturn, 1) := by decide +kernel
theorem dX13_wordOf_381 : decode cX13_wordOf 381 = .ok (.bipush 111, 2) := by decide +kernel
theorem dX13_wordOf_383 : decode cX13_wordOf 383 = .ok (.bipush 114, 2) := by decide +kernel
theorem dX13_wordOf_385 : decode cX13_wordOf 385 = .ok (.iconst 0, 1) := by decide +kernel
theorem dX13_wordOf_386 : decode cX13_wordOf 386 = .ok (.iconst 0, 1) := by decide +kernel
theorem dX13_wordOf_387 : decode cX13_wordOf 387 = .ok (.iconst 0, 1) := by decide +kernel
theorem dX13_wordOf_388 : decode cX13_wordOf 388 = .ok (.iconst 0, 1) := by decide +kernel
theorem dX13_wordOf_389 : decode cX13_wordOf 389 = .ok (.invokestatic 58, 3) := by decide +kernel
theorem dX13_wordOf_392 : decode cX13_wordOf 392 = .ok (.lreturn, 1) := by decide +kernel
theorem dX13_wordOf_393 : decode cX13_wordOf 393 = .ok (.bipush 97, 2) := by decide +kernel
theorem dX13_wordOf_395 : decode cX13_wordOf 395 = .ok (.bipush 110, 2) := by decide +kernel
theorem dX13_wordOf_397 : decode cX13_wordOf 397 = .ok (.bipush 100, 2) := by decide +kernel
theorem dX13_wordOf_399 : decode cX13_wordOf 399 = .ok (.iconst 0, 1) := by decide +kernel
theorem dX13_wordOf_400 : decode cX13_wordOf 400 = .ok (.iconst 0, 1) := by decide +kernel
theorem dX13_wordOf_401 : decode cX13_wordOf 401 = .ok (.iconst 0, 1) := by decide +kernel
theorem dX13_wordOf_402 : decode cX13_wordOf 402 = .ok (.invokestatic 58, 3) := by decide +kernel
theorem dX13_wordOf_405 : decode cX13_wordOf 405 = .ok (.lreturn, 1) := by decide +kernel
theorem dX13_wordOf_406 : decode cX13_wordOf 406 = .ok (.bipush 110, 2) := by decide +kernel
theorem dX13_wordOf_408 : decode cX13_wordOf 408 = .ok (.bipush 111, 2) := by decide +kernel
theorem dX13_wordOf_410 : decode cX13_wordOf 410 = .ok (.bipush 116, 2) := by decide +kernel
theorem dX13_wordOf_412 : decode cX13_wordOf 412 = .ok (.iconst 0, 1) := by decide +kernel
theorem dX13_wordOf_413 : decode cX13_wordOf 413 = .ok (.iconst 0, 1) := by decide +kernel
theorem dX13_wordOf_414 : decode cX13_wordOf 414 = .ok (.iconst 0, 1) := by decide +kernel
theorem dX13_wordOf_415 : decode cX13_wordOf 415 = .ok (.invokestatic 58, 3) := by decide +kernel
theorem dX13_wordOf_418 : decode cX13_wordOf 418 = .ok (.lreturn, 1) := by decide +kernel
theorem dX13_wordOf_419 : decode cX13_wordOf 419 = .ok (.bipush 108, 2) := by decide +kernel
theorem dX13_wordOf_421 : decode cX13_wordOf 421 = .ok (.bipush 97, 2) := by decide +kernel
theorem dX13_wordOf_423 : decode cX13_wordOf 423 = .ok (.bipush 112, 2) := by decide +kernel
theorem dX13_wordOf_425 : decode cX13_wordOf 425 = .ok (.bipush 115, 2) := by decide +kernel
theorem dX13_wordOf_427 : decode cX13_wordOf 427 = .ok (.bipush 101, 2) := by decide +kernel
theorem dX13_wordOf_429 : decode cX13_wordOf 429 = .ok (.bipush 100, 2) := by decide +kernel
theorem dX13_wordOf_431 : decode cX13_wordOf 431 = .ok (.invokestatic 58, 3) := by decide +kernel
theorem dX13_wordOf_434 : decode cX13_wordOf 434 = .ok (.lreturn, 1) := by decide +kernel
theorem dX13_wordOf_435 : decode cX13_wordOf 435 = .ok (.bipush 114, 2) := by decide +kernel
theorem dX13_wordOf_437 : decode cX13_wordOf 437 = .ok (.bipush 117, 2) := by decide +kernel
theorem dX13_wordOf_439 : decode cX13_wordOf 439 = .ok (.bipush 110, 2) := by decide +kernel
theorem dX13_wordOf_441 : decode cX13_wordOf 441 = .ok (.iconst 0, 1) := by decide +kernel
theorem dX13_wordOf_442 : decode cX13_wordOf 442 = .ok (.iconst 0, 1) := by decide +kernel
theorem dX13_wordOf_443 : decode cX13_wordOf 443 = .ok (.iconst 0, 1) := by decide +kernel
theorem dX13_wordOf_444 : decode cX13_wordOf 444 = .ok (.invokestatic 58, 3) := by decide +kernel
theorem dX13_wordOf_447 : decode cX13_wordOf 447 = .ok (.lreturn, 1) := by decide +kernel
theorem dX13_wordOf_448 : decode cX13_wordOf 448 = .ok (.bipush 97, 2) := by decide +kernel
theorem dX13_wordOf_450 : decode cX13_wordOf 450 = .ok (.bipush 115, 2) := by decide +kernel
theorem dX13_wordOf_452 : decode cX13_wordOf 452 = .ok (.bipush 108, 2) := by decide +kernel
theorem dX13_wordOf_454 : decode cX13_wordOf 454 = .ok (.bipush 97, 2) := by decide +kernel
theorem dX13_wordOf_456 : decode cX13_wordOf 456 = .ok (.bipush 110, 2) := by decide +kernel
theorem dX13_wordOf_458 : decode cX13_wordOf 458 = .ok (.bipush 116, 2) := by decide +kernel
theorem dX13_wordOf_460 : decode cX13_wordOf 460 = .ok (.invokestatic 58, 3) := by decide +kernel
theorem dX13_wordOf_463 : decode cX13_wordOf 463 = .ok (.lreturn, 1) := by decide +kernel
theorem dX13_wordOf_464 : decode cX13_wordOf 464 = .ok (.bipush 98, 2) := by decide +kernel
theorem dX13_wordOf_466 : decode cX13_wordOf 466 = .ok (.bipush 111, 2) := by decide +kernel
theorem dX13_wordOf_468 : decode cX13_wordOf 468 = .ok (.bipush 116, 2) := by decide +kernel
theorem dX13_wordOf_470 : decode cX13_wordOf 470 = .ok (.bipush 104, 2) := by decide +kernel
theorem dX13_wordOf_472 : decode cX13_wordOf 472 = .ok (.iconst 0, 1) := by decide +kernel
theorem dX13_wordOf_473 : decode cX13_wordOf 473 = .ok (.iconst 0, 1) := by decide +kernel
theorem dX13_wordOf_474 : decode cX13_wordOf 474 = .ok (.invokestatic 58, 3) := by decide +kernel
theorem dX13_wordOf_477 : decode cX13_wordOf 477 = .ok (.lreturn, 1) := by decide +kernel
theorem dX13_wordOf_478 : decode cX13_wordOf 478 = .ok (.bipush 111, 2) := by decide +kernel
theorem dX13_wordOf_480 : decode cX13_wordOf 480 = .ok (.bipush 102, 2) := by decide +kernel
theorem dX13_wordOf_482 : decode cX13_wordOf 482 = .ok (.iconst 0, 1) := by decide +kernel
theorem dX13_wordOf_483 : decode cX13_wordOf 483 = .ok (.iconst 0, 1) := by decide +kernel
theorem dX13_wordOf_484 : decode cX13_wordOf 484 = .ok (.iconst 0, 1) := by decide +kernel
theorem dX13_wordOf_485 : decode cX13_wordOf 485 = .ok (.iconst 0, 1) := by decide +kernel
theorem dX13_wordOf_486 : decode cX13_wordOf 486 = .ok (.invokestatic 58, 3) := by decide +kernel
theorem dX13_wordOf_489 : decode cX13_wordOf 489 = .ok (.lreturn, 1) := by decide +kernel
theorem dX13_wordOf_490 : decode cX13_wordOf 490 = .ok (.bipush 108, 2) := by decide +kernel
theorem dX13_wordOf_492 : decode cX13_wordOf 492 = .ok (.bipush 101, 2) := by decide +kernel
theorem dX13_wordOf_494 : decode cX13_wordOf 494 = .ok (.bipush 102, 2) := by decide +kernel
theorem dX13_wordOf_496 : decode cX13_wordOf 496 = .ok (.bipush 116, 2) := by decide +kernel
theorem dX13_wordOf_498 : decode cX13_wordOf 498 = .ok (.iconst 0, 1) := by decide +kernel
theorem dX13_wordOf_499 : decode cX13_wordOf 499 = .ok (.iconst 0, 1) := by decide +kernel
theorem dX13_wordOf_500 : decode cX13_wordOf 500 = .ok (.invokestatic 58, 3) := by decide +kernel
theorem dX13_wordOf_503 : decode cX13_wordOf 503 = .ok (.lreturn, 1) := by decide +kernel
theorem dX13_wordOf_504 : decode cX13_wordOf 504 = .ok (.bipush 110, 2) := by decide +kernel
theorem dX13_wordOf_506 : decode cX13_wordOf 506 = .ok (.bipush 101, 2) := by decide +kernel
theorem dX13_wordOf_508 : decode cX13_wordOf 508 = .ok (.bipush 99, 2) := by decide +kernel
theorem dX13_wordOf_510 : decode cX13_wordOf 510 = .ok (.bipush 107, 2) := by decide +kernel
theorem dX13_wordOf_512 : decode cX13_wordOf 512 = .ok (.iconst 0, 1) := by decide +kernel
theorem dX13_wordOf_513 : decode cX13_wordOf 513 = .ok (.iconst 0, 1) := by decide +kernel
theorem dX13_wordOf_514 : decode cX13_wordOf 514 = .ok (.invokestatic 58, 3) := by decide +kernel
theorem dX13_wordOf_517 : decode cX13_wordOf 517 = .ok (.lreturn, 1) := by decide +kernel
theorem dX13_wordOf_518 : decode cX13_wordOf 518 = .ok (.bipush 116, 2) := by decide +kernel
theorem dX13_wordOf_520 : decode cX13_wordOf 520 = .ok (.bipush 117, 2) := by decide +kernel
theorem dX13_wordOf_522 : decode cX13_wordOf 522 = .ok (.bipush 114, 2) := by decide +kernel
theorem dX13_wordOf_524 : decode cX13_wordOf 524 = .ok (.bipush 110, 2) := by decide +kernel
theorem dX13_wordOf_526 : decode cX13_wordOf 526 = .ok (.bipush 101, 2) := by decide +kernel
theorem dX13_wordOf_528 : decode cX13_wordOf 528 = .ok (.bipush 100, 2) := by decide +kernel
theorem dX13_wordOf_530 : decode cX13_wordOf 530 = .ok (.invokestatic 58, 3) := by decide +kernel
theorem dX13_wordOf_533 : decode cX13_wordOf 533 = .ok (.lreturn, 1) := by decide +kernel
theorem dX13_wordOf_534 : decode cX13_wordOf 534 = .ok (.bipush 110, 2) := by decide +kernel
theorem dX13_wordOf_536 : decode cX13_wordOf 536 = .ok (.bipush 117, 2) := by decide +kernel
theorem dX13_wordOf_538 : decode cX13_wordOf 538 = .ok (.bipush 109, 2) := by decide +kernel
theorem dX13_wordOf_540 : decode cX13_wordOf 540 = .ok (.bipush 98, 2) := by decide +kernel
theorem dX13_wordOf_542 : decode cX13_wordOf 542 = .ok (.bipush 101, 2) := by decide +kernel
theorem dX13_wordOf_544 : decode cX13_wordOf 544 = .ok (.bipush 114, 2) := by decide +kernel
theorem dX13_wordOf_546 : decode cX13_wordOf 546 = .ok (.invokestatic 58, 3) := by decide +kernel
theorem dX13_wordOf_549 : decode cX13_wordOf 549 = .ok (.lreturn, 1) := by decide +kernel
theorem dX13_isWord_0 : decode cX13_isWord 0 = .ok (.aload_n 0, 1) := by decide +kernel
theorem dX13_isWord_1 : decode cX13_isWord 1 = .ok (.getfield 30, 3) := by decide +kernel
theorem dX13_isWord_4 : decode cX13_isWord 4 = .ok (.iconst 2, 1) := by decide +kernel
theorem dX13_isWord_5 : decode cX13_isWord 5 = .ok (.if_icmp .ne 19, 3) := by decide +kernel
theorem dX13_isWord_8 : decode cX13_isWord 8 = .ok (.aload_n 0, 1) := by decide +kernel
theorem dX13_isWord_9 : decode cX13_isWord 9 = .ok (.getfield 43, 3) := by decide +kernel
theorem dX13_isWord_12 : decode cX13_isWord 12 = .ok (.iload_n 1, 1) := by decide +kernel
theorem dX13_isWord_13 : decode cX13_isWord 13 = .ok (.invokestatic 62, 3) := by decide +kernel
theorem dX13_isWord_16 : decode cX13_isWord 16 = .ok (.lcmp, 1) := by decide +kernel
theorem dX13_isWord_17 : decode cX13_isWord 17 = .ok (.ifCond .ne 7, 3) := by decide +kernel
theorem dX13_isWord_20 : decode cX13_isWord 20 = .ok (.iconst 1, 1) := by decide +kernel
theorem dX13_isWord_21 : decode cX13_isWord 21 = .ok (.goto 4, 3) := by decide +kernel
theorem dX13_isWord_24 : decode cX13_isWord 24 = .ok (.iconst 0, 1) := by decide +kernel
theorem dX13_isWord_25 : decode cX13_isWord 25 = .ok (.ireturn, 1) := by decide +kernel
theorem dX13_isSign_0 : decode cX13_isSign 0 = .ok (.aload_n 0, 1) := by decide +kernel
theorem dX13_isSign_1 : decode cX13_isSign 1 = .ok (.getfield 30, 3) := by decide +kernel
theorem dX13_isSign_4 : decode cX13_isSign 4 = .ok (.iconst 4, 1) := by decide +kernel
theorem dX13_isSign_5 : decode cX13_isSign 5 = .ok (.if_icmp .ne 15, 3) := by decide +kernel
theorem dX13_isSign_8 : decode cX13_isSign 8 = .ok (.aload_n 0, 1) := by decide +kernel
theorem dX13_isSign_9 : decode cX13_isSign 9 = .ok (.getfield 40, 3) := by decide +kernel
theorem dX13_isSign_12 : decode cX13_isSign 12 = .ok (.iload_n 1, 1) := by decide +kernel
theorem dX13_isSign_13 : decode cX13_isSign 13 = .ok (.if_icmp .ne 7, 3) := by decide +kernel
theorem dX13_isSign_16 : decode cX13_isSign 16 = .ok (.iconst 1, 1) := by decide +kernel
theorem dX13_isSign_17 : decode cX13_isSign 17 = .ok (.goto 4, 3) := by decide +kernel
theorem dX13_isSign_20 : decode cX13_isSign 20 = .ok (.iconst 0, 1) := by decide +kernel
theorem dX13_isSign_21 : decode cX13_isSign 21 = .ok (.ireturn, 1) := by decide +kernel
theorem dX13_isName_0 : decode cX13_isName 0 = .ok (.aload_n 0, 1) := by decide +kernel
theorem dX13_isName_1 : decode cX13_isName 1 = .ok (.getfield 30, 3) := by decide +kernel
theorem dX13_isName_4 : decode cX13_isName 4 = .ok (.iconst 2, 1) := by decide +kernel
theorem dX13_isName_5 : decode cX13_isName 5 = .ok (.if_icmp .eq 5, 3) := by decide +kernel
theorem dX13_isName_8 : decode cX13_isName 8 = .ok (.iconst 0, 1) := by decide +kernel
theorem dX13_isName_9 : decode cX13_isName 9 = .ok (.ireturn, 1) := by decide +kernel
theorem dX13_isName_10 : decode cX13_isName 10 = .ok (.iconst 0, 1) := by decide +kernel
theorem dX13_isName_11 : decode cX13_isName 11 = .ok (.istore_n 1, 1) := by decide +kernel
theorem dX13_isName_12 : decode cX13_isName 12 = .ok (.iload_n 1, 1) := by decide +kernel
theorem dX13_isName_13 : decode cX13_isName 13 = .ok (.bipush 28, 2) := by decide +kernel
theorem dX13_isName_15 : decode cX13_isName 15 = .ok (.if_icmp .gt 23, 3) := by decide +kernel
theorem dX13_isName_18 : decode cX13_isName 18 = .ok (.aload_n 0, 1) := by decide +kernel
theorem dX13_isName_19 : decode cX13_isName 19 = .ok (.getfield 43, 3) := by decide +kernel
theorem dX13_isName_22 : decode cX13_isName 22 = .ok (.iload_n 1, 1) := by decide +kernel
theorem dX13_isName_23 : decode cX13_isName 23 = .ok (.invokestatic 62, 3) := by decide +kernel
theorem dX13_isName_26 : decode cX13_isName 26 = .ok (.lcmp, 1) := by decide +kernel
theorem dX13_isName_27 : decode cX13_isName 27 = .ok (.ifCond .ne 5, 3) := by decide +kernel
theorem dX13_isName_30 : decode cX13_isName 30 = .ok (.iconst 0, 1) := by decide +kernel
theorem dX13_isName_31 : decode cX13_isName 31 = .ok (.ireturn, 1) := by decide +kernel
theorem dX13_isName_32 : decode cX13_isName 32 = .ok (.iinc 1 1, 3) := by decide +kernel
theorem dX13_isName_35 : decode cX13_isName 35 = .ok (.goto (-23), 3) := by decide +kernel
theorem dX13_isName_38 : decode cX13_isName 38 = .ok (.iconst 1, 1) := by decide +kernel
theorem dX13_isName_39 : decode cX13_isName 39 = .ok (.ireturn, 1) := by decide +kernel
theorem dX13_bad_0 : decode cX13_bad 0 = .ok (.aload_n 0, 1) := by decide +kernel
theorem dX13_bad_1 : decode cX13_bad 1 = .ok (.aload_n 0, 1) := by decide +kernel
theorem dX13_bad_2 : decode cX13_bad 2 = .ok (.getfield 30, 3) := by decide +kernel
theorem dX13_bad_5 : decode cX13_bad 5 = .ok (.iconst 1, 1) := by decide +kernel
theorem dX13_bad_6 : decode cX13_bad 6 = .ok (.if_icmp .ne 7, 3) := by decide +kernel
theorem dX13_bad_9 : decode cX13_bad 9 = .ok (.iconst 1, 1) := by decide +kernel
theorem dX13_bad_10 : decode cX13_bad 10 = .ok (.goto 4, 3) := by decide +kernel
theorem dX13_bad_13 : decode cX13_bad 13 = .ok (.iload_n 1, 1) := by decide +kernel
theorem dX13_bad_14 : decode cX13_bad 14 = .ok (.putfield 66, 3) := by decide +kernel
theorem dX13_bad_17 : decode cX13_bad 17 = .ok (.aload_n 0, 1) := by decide +kernel
theorem dX13_bad_18 : decode cX13_bad 18 = .ok (.aload_n 0, 1) := by decide +kernel
theorem dX13_bad_19 : decode cX13_bad 19 = .ok (.getfield 24, 3) := by decide +kernel
theorem dX13_bad_22 : decode cX13_bad 22 = .ok (.putfield 69, 3) := by decide +kernel
theorem dX13_bad_25 : decode cX13_bad 25 = .ok (.iconst 0, 1) := by decide +kernel
theorem dX13_bad_26 : decode cX13_bad 26 = .ok (.ireturn, 1) := by decide +kernel
theorem dX13_readNumber_0 : decode cX13_readNumber 0 = .ok (.aload_n 0, 1) := by decide +kernel
theorem dX13_readNumber_1 : decode cX13_readNumber 1 = .ok (.getfield 30, 3) := by decide +kernel
theorem dX13_readNumber_4 : decode cX13_readNumber 4 = .ok (.iconst 3, 1) := by decide +kernel
theorem dX13_readNumber_5 : decode cX13_readNumber 5 = .ok (.if_icmp .eq 9, 3) := by decide +kernel
theorem dX13_readNumber_8 : decode cX13_readNumber 8 = .ok (.aload_n 0, 1) := by decide +kernel
theorem dX13_readNumber_9 : decode cX13_readNumber 9 = .ok (.iconst 1, 1) := by decide +kernel
theorem dX13_readNumber_10 : decode cX13_readNumber 10 = .ok (.invokevirtual 72, 3) := by decide +kernel
theorem dX13_readNumber_13 : decode cX13_readNumber 13 = .ok (.ireturn, 1) := by decide +kernel
theorem dX13_readNumber_14 : decode cX13_readNumber 14 = .ok (.aload_n 0, 1) := by decide +kernel
theorem dX13_readNumber_15 : decode cX13_readNumber 15 = .ok (.getfield 47, 3) := by decide +kernel
theorem dX13_readNumber_18 : decode cX13_readNumber 18 = .ok (.iload_n 1, 1) := by decide +kernel
theorem dX13_readNumber_19 : decode cX13_readNumber 19 = .ok (.iload_n 2, 1) := by decide +kernel
theorem dX13_readNumber_20 : decode cX13_readNumber 20 = .ok (.invokestatic 75, 3) := by decide +kernel
theorem dX13_readNumber_23 : decode cX13_readNumber 23 = .ok (.ifCond .ne 9, 3) := by decide +kernel
theorem dX13_readNumber_26 : decode cX13_readNumber 26 = .ok (.aload_n 0, 1) := by decide +kernel
theorem dX13_readNumber_27 : decode cX13_readNumber 27 = .ok (.iconst 2, 1) := by decide +kernel
theorem dX13_readNumber_28 : decode cX13_readNumber 28 = .ok (.invokevirtual 72, 3) := by decide +kernel
theorem dX13_readNumber_31 : decode cX13_readNumber 31 = .ok (.ireturn, 1) := by decide +kernel
theorem dX13_readNumber_32 : decode cX13_readNumber 32 = .ok (.aload_n 0, 1) := by decide +kernel
theorem dX13_readNumber_33 : decode cX13_readNumber 33 = .ok (.aload_n 0, 1) := by decide +kernel
theorem dX13_readNumber_34 : decode cX13_readNumber 34 = .ok (.getfield 47, 3) := by decide +kernel
theorem dX13_readNumber_37 : decode cX13_readNumber 37 = .ok (.putfield 79, 3) := by decide +kernel
theorem dX13_readNumber_40 : decode cX13_readNumber 40 = .ok (.aload_n 0, 1) := by decide +kernel
theorem dX13_readNumber_41 : decode cX13_readNumber 41 = .ok (.invokevirtual 82, 3) := by decide +kernel
theorem dX13_readNumber_44 : decode cX13_readNumber 44 = .ok (.iconst 1, 1) := by decide +kernel
theorem dX13_readNumber_45 : decode cX13_readNumber 45 = .ok (.ireturn, 1) := by decide +kernel
theorem dX13_readEnd_0 : decode cX13_readEnd 0 = .ok (.aload_n 0, 1) := by decide +kernel
theorem dX13_readEnd_1 : decode cX13_readEnd 1 = .ok (.bipush 59, 2) := by decide +kernel
theorem dX13_readEnd_3 : decode cX13_readEnd 3 = .ok (.invokevirtual 86, 3) := by decide +kernel
theorem dX13_readEnd_6 : decode cX13_readEnd 6 = .ok (.ifCond .ne 9, 3) := by decide +kernel
theorem dX13_readEnd_9 : decode cX13_readEnd 9 = .ok (.aload_n 0, 1) := by decide +kernel
theorem dX13_readEnd_10 : decode cX13_readEnd 10 = .ok (.iconst 1, 1) := by decide +kernel
theorem dX13_readEnd_11 : decode cX13_readEnd 11 = .ok (.invokevirtual 72, 3) := by decide +kernel
theorem dX13_readEnd_14 : decode cX13_readEnd 14 = .ok (.ireturn, 1) := by decide +kernel
theorem dX13_readEnd_15 : decode cX13_readEnd 15 = .ok (.aload_n 0, 1) := by decide +kernel
theorem dX13_readEnd_16 : decode cX13_readEnd 16 = .ok (.invokevirtual 82, 3) := by decide +kernel
theorem dX13_readEnd_19 : decode cX13_readEnd 19 = .ok (.iconst 1, 1) := by decide +kernel
theorem dX13_readEnd_20 : decode cX13_readEnd 20 = .ok (.ireturn, 1) := by decide +kernel
theorem dX13_begin_0 : decode cX13_begin 0 = .ok (.aload_n 0, 1) := by decide +kernel
theorem dX13_begin_1 : decode cX13_begin 1 = .ok (.iconst 0, 1) := by decide +kernel
theorem dX13_begin_2 : decode cX13_begin 2 = .ok (.putfield 1, 3) := by decide +kernel
theorem dX13_begin_5 : decode cX13_begin 5 = .ok (.aload_n 0, 1) := by decide +kernel
theorem dX13_begin_6 : decode cX13_begin 6 = .ok (.aload_n 0, 1) := by decide +kernel
theorem dX13_begin_7 : decode cX13_begin 7 = .ok (.invokevirtual 89, 3) := by decide +kernel
theorem dX13_begin_10 : decode cX13_begin 10 = .ok (.putfield 18, 3) := by decide +kernel
theorem dX13_begin_13 : decode cX13_begin 13 = .ok (.aload_n 0, 1) := by decide +kernel
theorem dX13_begin_14 : decode cX13_begin 14 = .ok (.iload_n 1, 1) := by decide +kernel
theorem dX13_begin_15 : decode cX13_begin 15 = .ok (.putfield 27, 3) := by decide +kernel
theorem dX13_begin_18 : decode cX13_begin 18 = .ok (.aload_n 0, 1) := by decide +kernel
theorem dX13_begin_19 : decode cX13_begin 19 = .ok (.iconst 0, 1) := by decide +kernel
theorem dX13_begin_20 : decode cX13_begin 20 = .ok (.putfield 66, 3) := by decide +kernel
theorem dX13_begin_23 : decode cX13_begin 23 = .ok (.aload_n 0, 1) := by decide +kernel
theorem dX13_begin_24 : decode cX13_begin 24 = .ok (.iconst 0, 1) := by decide +kernel
theorem dX13_begin_25 : decode cX13_begin 25 = .ok (.putfield 21, 3) := by decide +kernel
theorem dX13_begin_28 : decode cX13_begin 28 = .ok (.aload_n 0, 1) := by decide +kernel
theorem dX13_begin_29 : decode cX13_begin 29 = .ok (.invokevirtual 82, 3) := by decide +kernel
theorem dX13_begin_32 : decode cX13_begin 32 = .ok (.return_, 1) := by decide +kernel
theorem dX13_init_0 : decode cX13_init 0 = .ok (.aload_n 0, 1) := by decide +kernel
theorem dX13_init_1 : decode cX13_init 1 = .ok (.invokespecial 93, 3) := by decide +kernel
theorem dX13_init_4 : decode cX13_init 4 = .ok (.aload_n 0, 1) := by decide +kernel
theorem dX13_init_5 : decode cX13_init 5 = .ok (.sipush 940, 3) := by decide +kernel
theorem dX13_init_8 : decode cX13_init 8 = .ok (.newarray .int, 2) := by decide +kernel
theorem dX13_init_10 : decode cX13_init 10 = .ok (.putfield 7, 3) := by decide +kernel
theorem dX13_init_13 : decode cX13_init 13 = .ok (.aload_n 0, 1) := by decide +kernel
theorem dX13_init_14 : decode cX13_init 14 = .ok (.sipush 383, 3) := by decide +kernel
theorem dX13_init_17 : decode cX13_init 17 = .ok (.newarray .int, 2) := by decide +kernel
theorem dX13_init_19 : decode cX13_init 19 = .ok (.putfield 98, 3) := by decide +kernel
theorem dX13_init_22 : decode cX13_init 22 = .ok (.aload_n 0, 1) := by decide +kernel
theorem dX13_init_23 : decode cX13_init 23 = .ok (.bipush 102, 2) := by decide +kernel
theorem dX13_init_25 : decode cX13_init 25 = .ok (.newarray .int, 2) := by decide +kernel
theorem dX13_init_27 : decode cX13_init 27 = .ok (.putfield 101, 3) := by decide +kernel
theorem dX13_init_30 : decode cX13_init 30 = .ok (.aload_n 0, 1) := by decide +kernel
theorem dX13_init_31 : decode cX13_init 31 = .ok (.sipush 766, 3) := by decide +kernel
theorem dX13_init_34 : decode cX13_init 34 = .ok (.newarray .int, 2) := by decide +kernel
theorem dX13_init_36 : decode cX13_init 36 = .ok (.putfield 104, 3) := by decide +kernel
theorem dX13_init_39 : decode cX13_init 39 = .ok (.aload_n 0, 1) := by decide +kernel
theorem dX13_init_40 : decode cX13_init 40 = .ok (.sipush 312, 3) := by decide +kernel
theorem dX13_init_43 : decode cX13_init 43 = .ok (.newarray .int, 2) := by decide +kernel
theorem dX13_init_45 : decode cX13_init 45 = .ok (.putfield 107, 3) := by decide +kernel
theorem dX13_init_48 : decode cX13_init 48 = .ok (.aload_n 0, 1) := by decide +kernel
theorem dX13_init_49 : decode cX13_init 49 = .ok (.bipush 39, 2) := by decide +kernel
theorem dX13_init_51 : decode cX13_init 51 = .ok (.newarray .int, 2) := by decide +kernel
theorem dX13_init_53 : decode cX13_init 53 = .ok (.putfield 110, 3) := by decide +kernel
theorem dX13_init_56 : decode cX13_init 56 = .ok (.aload_n 0, 1) := by decide +kernel
theorem dX13_init_57 : decode cX13_init 57 = .ok (.bipush 18, 2) := by decide +kernel
theorem dX13_init_59 : decode cX13_init 59 = .ok (.newarray .long, 2) := by decide +kernel
theorem dX13_init_61 : decode cX13_init 61 = .ok (.putfield 113, 3) := by decide +kernel
theorem dX13_init_64 : decode cX13_init 64 = .ok (.aload_n 0, 1) := by decide +kernel
theorem dX13_init_65 : decode cX13_init 65 = .ok (.bipush 18, 2) := by decide +kernel
theorem dX13_init_67 : decode cX13_init 67 = .ok (.newarray .long, 2) := by decide +kernel
theorem dX13_init_69 : decode cX13_init 69 = .ok (.putfield 117, 3) := by decide +kernel
theorem dX13_init_72 : decode cX13_init 72 = .ok (.aload_n 0, 1) := by decide +kernel
theorem dX13_init_73 : decode cX13_init 73 = .ok (.bipush 36, 2) := by decide +kernel
theorem dX13_init_75 : decode cX13_init 75 = .ok (.newarray .long, 2) := by decide +kernel
theorem dX13_init_77 : decode cX13_init 77 = .ok (.putfield 120, 3) := by decide +kernel
theorem dX13_init_80 : decode cX13_init 80 = .ok (.aload_n 0, 1) := by decide +kernel
theorem dX13_init_81 : decode cX13_init 81 = .ok (.iconst 2, 1) := by decide +kernel
theorem dX13_init_82 : decode cX13_init 82 = .ok (.newarray .boolean, 2) := by decide +kernel
theorem dX13_init_84 : decode cX13_init 84 = .ok (.putfield 123, 3) := by decide +kernel
theorem dX13_init_87 : decode cX13_init 87 = .ok (.aload_n 0, 1) := by decide +kernel
theorem dX13_init_88 : decode cX13_init 88 = .ok (.iconst 4, 1) := by decide +kernel
theorem dX13_init_89 : decode cX13_init 89 = .ok (.newarray .int, 2) := by decide +kernel
theorem dX13_init_91 : decode cX13_init 91 = .ok (.putfield 127, 3) := by decide +kernel
theorem dX13_init_94 : decode cX13_init 94 = .ok (.aload_n 0, 1) := by decide +kernel
theorem dX13_init_95 : decode cX13_init 95 = .ok (.sipush 15921, 3) := by decide +kernel
theorem dX13_init_98 : decode cX13_init 98 = .ok (.newarray .int, 2) := by decide +kernel
theorem dX13_init_100 : decode cX13_init 100 = .ok (.putfield 130, 3) := by decide +kernel
theorem dX13_init_103 : decode cX13_init 103 = .ok (.aload_n 0, 1) := by decide +kernel
theorem dX13_init_104 : decode cX13_init 104 = .ok (.bipush 60, 2) := by decide +kernel
theorem dX13_init_106 : decode cX13_init 106 = .ok (.newarray .int, 2) := by decide +kernel
theorem dX13_init_108 : decode cX13_init 108 = .ok (.putfield 133, 3) := by decide +kernel
theorem dX13_init_111 : decode cX13_init 111 = .ok (.aload_n 0, 1) := by decide +kernel
theorem dX13_init_112 : decode cX13_init 112 = .ok (.bipush 64, 2) := by decide +kernel
theorem dX13_init_114 : decode cX13_init 114 = .ok (.newarray .int, 2) := by decide +kernel
theorem dX13_init_116 : decode cX13_init 116 = .ok (.putfield 136, 3) := by decide +kernel
theorem dX13_init_119 : decode cX13_init 119 = .ok (.aload_n 0, 1) := by decide +kernel
theorem dX13_init_120 : decode cX13_init 120 = .ok (.bipush 120, 2) := by decide +kernel
theorem dX13_init_122 : decode cX13_init 122 = .ok (.newarray .int, 2) := by decide +kernel
theorem dX13_init_124 : decode cX13_init 124 = .ok (.putfield 139, 3) := by decide +kernel
theorem dX13_init_127 : decode cX13_init 127 = .ok (.aload_n 0, 1) := by decide +kernel
theorem dX13_init_128 : decode cX13_init 128 = .ok (.iconst 4, 1) := by decide +kernel
theorem dX13_init_129 : decode cX13_init 129 = .ok (.newarray .int, 2) := by decide +kernel
theorem dX13_init_131 : decode cX13_init 131 = .ok (.putfield 142, 3) := by decide +kernel
theorem dX13_init_134 : decode cX13_init 134 = .ok (.aload_n 0, 1) := by decide +kernel
theorem dX13_init_135 : decode cX13_init 135 = .ok (.sipush 240, 3) := by decide +kernel
theorem dX13_init_138 : decode cX13_init 138 = .ok (.newarray .int, 2) := by decide +kernel
theorem dX13_init_140 : decode cX13_init 140 = .ok (.putfield 145, 3) := by decide +kernel
theorem dX13_init_143 : decode cX13_init 143 = .ok (.aload_n 0, 1) := by decide +kernel
theorem dX13_init_144 : decode cX13_init 144 = .ok (.invokevirtual 148, 3) := by decide +kernel
theorem dX13_init_147 : decode cX13_init 147 = .ok (.iconst 0, 1) := by decide +kernel
theorem dX13_init_148 : decode cX13_init 148 = .ok (.istore_n 1, 1) := by decide +kernel
theorem dX13_init_149 : decode cX13_init 149 = .ok (.iload_n 1, 1) := by decide +kernel
theorem dX13_init_150 : decode cX13_init 150 = .ok (.bipush 102, 2) := by decide +kernel
theorem dX13_init_152 : decode cX13_init 152 = .ok (.if_icmp .ge 21, 3) := by decide +kernel
theorem dX13_init_155 : decode cX13_init 155 = .ok (.aload_n 0, 1) := by decide +kernel
theorem dX13_init_156 : decode cX13_init 156 = .ok (.getfield 98, 3) := by decide +kernel
theorem dX13_init_159 : decode cX13_init 159 = .ok (.iload_n 1, 1) := by decide +kernel
theorem dX13_init_160 : decode cX13_init 160 = .ok (.aload_n 0, 1) := by decide +kernel
theorem dX13_init_161 : decode cX13_init 161 = .ok (.getfield 101, 3) := by decide +kernel
theorem dX13_init_164 : decode cX13_init 164 = .ok (.iload_n 1, 1) := by decide +kernel
theorem dX13_init_165 : decode cX13_init 165 = .ok (.iaload, 1) := by decide +kernel
theorem dX13_init_166 : decode cX13_init 166 = .ok (.iastore, 1) := by decide +kernel
theorem dX13_init_167 : decode cX13_init 167 = .ok (.iinc 1 1, 3) := by decide +kernel
theorem dX13_init_170 : decode cX13_init 170 = .ok (.goto (-21), 3) := by decide +kernel
theorem dX13_init_173 : decode cX13_init 173 = .ok (.aload_n 0, 1) := by decide +kernel
theorem dX13_init_174 : decode cX13_init 174 = .ok (.invokevirtual 151, 3) := by decide +kernel
theorem dX13_init_177 : decode cX13_init 177 = .ok (.return_, 1) := by decide +kernel
theorem dX13_startRead_0 : decode cX13_startRead 0 = .ok (.iconst 0, 1) := by decide +kernel
theorem dX13_startRead_1 : decode cX13_startRead 1 = .ok (.istore_n 1, 1) := by decide +kernel
theorem dX13_startRead_2 : decode cX13_startRead 2 = .ok (.iload_n 1, 1) := by decide +kernel
theorem dX13_startRead_3 : decode cX13_startRead 3 = .ok (.bipush 102, 2) := by decide +kernel
theorem dX13_startRead_5 : decode cX13_startRead 5 = .ok (.if_icmp .ge 16, 3) := by decide +kernel
theorem dX13_startRead_8 : decode cX13_startRead 8 = .ok (.aload_n 0, 1) := by decide +kernel
theorem dX13_startRead_9 : decode cX13_startRead 9 = .ok (.getfield 101, 3) := by decide +kernel
theorem dX13_startRead_12 : decode cX13_startRead 12 = .ok (.iload_n 1, 1) := by decide +kernel
theorem dX13_startRead_13 : decode cX13_startRead 13 = .ok (.iconst 0, 1) := by decide +kernel
theorem dX13_startRead_14 : decode cX13_startRead 14 = .ok (.iastore, 1) := by decide +kernel
theorem dX13_startRead_15 : decode cX13_startRead 15 = .ok (.iinc 1 1, 3) := by decide +kernel
theorem dX13_startRead_18 : decode cX13_startRead 18 = .ok (.goto (-16), 3) := by decide +kernel
theorem dX13_startRead_21 : decode cX13_startRead 21 = .ok (.iconst 0, 1) := by decide +kernel
theorem dX13_startRead_22 : decode cX13_startRead 22 = .ok (.istore_n 1, 1) := by decide +kernel
theorem dX13_startRead_23 : decode cX13_startRead 23 = .ok (.iload_n 1, 1) := by decide +kernel
theorem dX13_startRead_24 : decode cX13_startRead 24 = .ok (.bipush 8, 2) := by decide +kernel
theorem dX13_startRead_26 : decode cX13_startRead 26 = .ok (.if_icmp .ge 19, 3) := by decide +kernel
theorem dX13_startRead_29 : decode cX13_startRead 29 = .ok (.aload_n 0, 1) := by decide +kernel
theorem dX13_startRead_30 : decode cX13_startRead 30 = .ok (.getfield 101, 3) := by decide +kernel
theorem dX13_startRead_33 : decode cX13_startRead 33 = .ok (.bipush 48, 2) := by decide +kernel
theorem dX13_startRead_35 : decode cX13_startRead 35 = .ok (.iload_n 1, 1) := by decide +kernel
theorem dX13_startRead_36 : decode cX13_startRead 36 = .ok (.iadd, 1) := by decide +kernel
theorem dX13_startRead_37 : decode cX13_startRead 37 = .ok (.iconst (-1), 1) := by decide +kernel
theorem dX13_startRead_38 : decode cX13_startRead 38 = .ok (.iastore, 1) := by decide +kernel
theorem dX13_startRead_39 : decode cX13_startRead 39 = .ok (.iinc 1 1, 3) := by decide +kernel
theorem dX13_startRead_42 : decode cX13_startRead 42 = .ok (.goto (-19), 3) := by decide +kernel
theorem dX13_startRead_45 : decode cX13_startRead 45 = .ok (.aload_n 0, 1) := by decide +kernel
theorem dX13_startRead_46 : decode cX13_startRead 46 = .ok (.getfield 101, 3) := by decide +kernel
theorem dX13_startRead_49 : decode cX13_startRead 49 = .ok (.iconst 3, 1) := by decide +kernel
theorem dX13_startRead_50 : decode cX13_startRead 50 = .ok (.iconst 2, 1) := by decide +kernel
theorem dX13_startRead_51 : decode cX13_startRead 51 = .ok (.iastore, 1) := by decide +kernel
theorem dX13_startRead_52 : decode cX13_startRead 52 = .ok (.aload_n 0, 1) := by decide +kernel
theorem dX13_startRead_53 : decode cX13_startRead 53 = .ok (.getfield 101, 3) := by decide +kernel
theorem dX13_startRead_56 : decode cX13_startRead 56 = .ok (.iconst 4, 1) := by decide +kernel
theorem dX13_startRead_57 : decode cX13_startRead 57 = .ok (.bipush 50, 2) := by decide +kernel
theorem dX13_startRead_59 : decode cX13_startRead 59 = .ok (.iastore, 1) := by decide +kernel
theorem dX13_startRead_60 : decode cX13_startRead 60 = .ok (.return_, 1) := by decide +kernel
theorem dX13_startSo_0 : decode cX13_startSo 0 = .ok (.bipush 102, 2) := by decide +kernel
theorem dX13_startSo_2 : decode cX13_startSo 2 = .ok (.istore_n 1, 1) := by decide +kernel
theorem dX13_startSo_3 : decode cX13_startSo 3 = .ok (.iload_n 1, 1) := by decide +kernel
theorem dX13_startSo_4 : decode cX13_startSo 4 = .ok (.sipush 383, 3) := by decide +kernel
theorem dX13_startSo_7 : decode cX13_startSo 7 = .ok (.if_icmp .ge 16, 3) := by decide +kernel
theorem dX13_startSo_10 : decode cX13_startSo 10 = .ok (.aload_n 0, 1) := by decide +kernel
theorem dX13_startSo_11 : decode cX13_startSo 11 = .ok (.getfield 98, 3) := by decide +kernel
theorem dX13_startSo_14 : decode cX13_startSo 14 = .ok (.iload_n 1, 1) := by decide +kernel
theorem dX13_startSo_15 : decode cX13_startSo 15 = .ok (.iconst 0, 1) := by decide +kernel
theorem dX13_startSo_16 : decode cX13_startSo 16 = .ok (.iastore, 1) := by decide +kernel
theorem dX13_startSo_17 : decode cX13_startSo 17 = .ok (.iinc 1 1, 3) := by decide +kernel
theorem dX13_startSo_20 : decode cX13_startSo 20 = .ok (.goto (-17), 3) := by decide +kernel
theorem dX13_startSo_23 : decode cX13_startSo 23 = .ok (.iconst 0, 1) := by decide +kernel
theorem dX13_startSo_24 : decode cX13_startSo 24 = .ok (.istore_n 1, 1) := by decide +kernel
theorem dX13_startSo_25 : decode cX13_startSo 25 = .ok (.iload_n 1, 1) := by decide +kernel
theorem dX13_startSo_26 : decode cX13_startSo 26 = .ok (.bipush 8, 2) := by decide +kernel
theorem dX13_startSo_28 : decode cX13_startSo 28 = .ok (.if_icmp .ge 27, 3) := by decide +kernel
theorem dX13_startSo_31 : decode cX13_startSo 31 = .ok (.aload_n 0, 1) := by decide +kernel
theorem dX13_startSo_32 : decode cX13_startSo 32 = .ok (.getfield 98, 3) := by decide +kernel
theorem dX13_startSo_35 : decode cX13_startSo 35 = .ok (.bipush 105, 2) := by decide +kernel
theorem dX13_startSo_37 : decode cX13_startSo 37 = .ok (.iload_n 1, 1) := by decide +kernel
theorem dX13_startSo_38 : decode cX13_startSo 38 = .ok (.iadd, 1) := by decide +kernel
theorem dX13_startSo_39 : decode cX13_startSo 39 = .ok (.aload_n 0, 1) := by decide +kernel
theorem dX13_startSo_40 : decode cX13_startSo 40 = .ok (.getfield 98, 3) := by decide +kernel
theorem dX13_startSo_43 : decode cX13_startSo 43 = .ok (.bipush 24, 2) := by decide +kernel
theorem dX13_startSo_45 : decode cX13_startSo 45 = .ok (.iload_n 1, 1) := by decide +kernel
theorem dX13_startSo_46 : decode cX13_startSo 46 = .ok (.iadd, 1) := by decide +kernel
theorem dX13_startSo_47 : decode cX13_startSo 47 = .ok (.iaload, 1) := by decide +kernel
theorem dX13_startSo_48 : decode cX13_startSo 48 = .ok (.iastore, 1) := by decide +kernel
theorem dX13_startSo_49 : decode cX13_startSo 49 = .ok (.iinc 1 1, 3) := by decide +kernel
theorem dX13_startSo_52 : decode cX13_startSo 52 = .ok (.goto (-27), 3) := by decide +kernel
theorem dX13_startSo_55 : decode cX13_startSo 55 = .ok (.iconst 0, 1) := by decide +kernel
theorem dX13_startSo_56 : decode cX13_startSo 56 = .ok (.istore_n 1, 1) := by decide +kernel
theorem dX13_startSo_57 : decode cX13_startSo 57 = .ok (.iload_n 1, 1) := by decide +kernel
theorem dX13_startSo_58 : decode cX13_startSo 58 = .ok (.iconst 4, 1) := by decide +kernel
theorem dX13_startSo_59 : decode cX13_startSo 59 = .ok (.if_icmp .ge 45, 3) := by decide +kernel
theorem dX13_startSo_62 : decode cX13_startSo 62 = .ok (.aload_n 0, 1) := by decide +kernel
theorem dX13_startSo_63 : decode cX13_startSo 63 = .ok (.getfield 98, 3) := by decide +kernel
theorem dX13_startSo_66 : decode cX13_startSo 66 = .ok (.bipush 121, 2) := by decide +kernel
theorem dX13_startSo_68 : decode cX13_startSo 68 = .ok (.iload_n 1, 1) := by decide +kernel
theorem dX13_startSo_69 : decode cX13_startSo 69 = .ok (.iadd, 1) := by decide +kernel
theorem dX13_startSo_70 : decode cX13_startSo 70 = .ok (.aload_n 0, 1) := by decide +kernel
theorem dX13_startSo_71 : decode cX13_startSo 71 = .ok (.getfield 98, 3) := by decide +kernel
theorem dX13_startSo_74 : decode cX13_startSo 74 = .ok (.bipush 68, 2) := by decide +kernel
theorem dX13_startSo_76 : decode cX13_startSo 76 = .ok (.iload_n 1, 1) := by decide +kernel
theorem dX13_startSo_77 : decode cX13_startSo 77 = .ok (.iadd, 1) := by decide +kernel
theorem dX13_startSo_78 : decode cX13_startSo 78 = .ok (.iaload, 1) := by decide +kernel
theorem dX13_startSo_79 : decode cX13_startSo 79 = .ok (.iastore, 1) := by decide +kernel
theorem dX13_startSo_80 : decode cX13_startSo 80 = .ok (.aload_n 0, 1) := by decide +kernel
theorem dX13_startSo_81 : decode cX13_startSo 81 = .ok (.getfield 98, 3) := by decide +kernel
theorem dX13_startSo_84 : decode cX13_startSo 84 = .ok (.bipush 125, 2) := by decide +kernel
theorem dX13_startSo_86 : decode cX13_startSo 86 = .ok (.iload_n 1, 1) := by decide +kernel
theorem dX13_startSo_87 : decode cX13_startSo 87 = .ok (.iadd, 1) := by decide +kernel
theorem dX13_startSo_88 : decode cX13_startSo 88 = .ok (.aload_n 0, 1) := by decide +kernel
theorem dX13_startSo_89 : decode cX13_startSo 89 = .ok (.getfield 98, 3) := by decide +kernel
theorem dX13_startSo_92 : decode cX13_startSo 92 = .ok (.bipush 64, 2) := by decide +kernel
theorem dX13_startSo_94 : decode cX13_startSo 94 = .ok (.iload_n 1, 1) := by decide +kernel
theorem dX13_startSo_95 : decode cX13_startSo 95 = .ok (.iadd, 1) := by decide +kernel
theorem dX13_startSo_96 : decode cX13_startSo 96 = .ok (.iaload, 1) := by decide +kernel
theorem dX13_startSo_97 : decode cX13_startSo 97 = .ok (.iastore, 1) := by decide +kernel
theorem dX13_startSo_98 : decode cX13_startSo 98 = .ok (.iinc 1 1, 3) := by decide +kernel
theorem dX13_startSo_101 : decode cX13_startSo 101 = .ok (.goto (-44), 3) := by decide +kernel
theorem dX13_startSo_104 : decode cX13_startSo 104 = .ok (.return_, 1) := by decide +kernel
theorem dX13_findIn_0 : decode cX13_findIn 0 = .ok (.iconst 0, 1) := by decide +kernel
theorem dX13_findIn_1 : decode cX13_findIn 1 = .ok (.istore 5, 2) := by decide +kernel
theorem dX13_findIn_3 : decode cX13_findIn 3 = .ok (.iload 5, 2) := by decide +kernel
theorem dX13_findIn_5 : decode cX13_findIn 5 = .ok (.iload_n 2, 1) := by decide +kernel
theorem dX13_findIn_6 : decode cX13_findIn 6 = .ok (.if_icmp .ge 23, 3) := by decide +kernel
theorem dX13_findIn_9 : decode cX13_findIn 9 = .ok (.aload_n 0, 1) := by decide +kernel
theorem dX13_findIn_10 : decode cX13_findIn 10 = .ok (.iload_n 1, 1) := by decide +kernel
theorem dX13_findIn_11 : decode cX13_findIn 11 = .ok (.iload 5, 2) := by decide +kernel
theorem dX13_findIn_13 : decode cX13_findIn 13 = .ok (.iadd, 1) := by decide +kernel
theorem dX13_findIn_14 : decode cX13_findIn 14 = .ok (.laload, 1) := by decide +kernel
theorem dX13_findIn_15 : decode cX13_findIn 15 = .ok (.lload_n 3, 1) := by decide +kernel
theorem dX13_findIn_16 : decode cX13_findIn 16 = .ok (.lcmp, 1) := by decide +kernel
theorem dX13_findIn_17 : decode cX13_findIn 17 = .ok (.ifCond .ne 6, 3) := by decide +kernel
theorem dX13_findIn_20 : decode cX13_findIn 20 = .ok (.iload 5, 2) := by decide +kernel
theorem dX13_findIn_22 : decode cX13_findIn 22 = .ok (.ireturn, 1) := by decide +kernel
theorem dX13_findIn_23 : decode cX13_findIn 23 = .ok (.iinc 5 1, 3) := by decide +kernel
theorem dX13_findIn_26 : decode cX13_findIn 26 = .ok (.goto (-23), 3) := by decide +kernel
theorem dX13_findIn_29 : decode cX13_findIn 29 = .ok (.iconst (-1), 1) := by decide +kernel
theorem dX13_findIn_30 : decode cX13_findIn 30 = .ok (.ireturn, 1) := by decide +kernel
theorem dX13_readNew_0 : decode cX13_readNew 0 = .ok (.aload_n 0, 1) := by decide +kernel
theorem dX13_readNew_1 : decode cX13_readNew 1 = .ok (.invokevirtual 154, 3) := by decide +kernel
theorem dX13_readNew_4 : decode cX13_readNew 4 = .ok (.ifCond .ne 9, 3) := by decide +kernel
theorem dX13_readNew_7 : decode cX13_readNew 7 = .ok (.aload_n 0, 1) := by decide +kernel
theorem dX13_readNew_8 : decode cX13_readNew 8 = .ok (.iconst 1, 1) := by decide +kernel
theorem dX13_readNew_9 : decode cX13_readNew 9 = .ok (.invokevirtual 72, 3) := by decide +kernel
theorem dX13_readNew_12 : decode cX13_readNew 12 = .ok (.ireturn, 1) := by decide +kernel
theorem dX13_readNew_13 : decode cX13_readNew 13 = .ok (.aload_n 0, 1) := by decide +kernel
theorem dX13_readNew_14 : decode cX13_readNew 14 = .ok (.getfield 117, 3) := by decide +kernel
theorem dX13_readNew_17 : decode cX13_readNew 17 = .ok (.iconst 0, 1) := by decide +kernel
theorem dX13_readNew_18 : decode cX13_readNew 18 = .ok (.aload_n 0, 1) := by decide +kernel
theorem dX13_readNew_19 : decode cX13_readNew 19 = .ok (.getfield 101, 3) := by decide +kernel
theorem dX13_readNew_22 : decode cX13_readNew 22 = .ok (.iconst 0, 1) := by decide +kernel
theorem dX13_readNew_23 : decode cX13_readNew 23 = .ok (.iaload, 1) := by decide +kernel
theorem dX13_readNew_24 : decode cX13_readNew 24 = .ok (.aload_n 0, 1) := by decide +kernel
theorem dX13_readNew_25 : decode cX13_readNew 25 = .ok (.getfield 43, 3) := by decide +kernel
theorem dX13_readNew_28 : decode cX13_readNew 28 = .ok (.invokestatic 158, 3) := by decide +kernel
theorem dX13_readNew_31 : decode cX13_readNew 31 = .ok (.iconst (-1), 1) := by decide +kernel
theorem dX13_readNew_32 : decode cX13_readNew 32 = .ok (.if_icmp .ne 49, 3) := by decide +kernel
theorem dX13_readNew_35 : decode cX13_readNew 35 = .ok (.aload_n 0, 1) := by decide +kernel
theorem dX13_readNew_36 : decode cX13_readNew 36 = .ok (.getfield 117, 3) := by decide +kernel
theorem dX13_readNew_39 : decode cX13_readNew 39 = .ok (.bipush 8, 2) := by decide +kernel
theorem dX13_readNew_41 : decode cX13_readNew 41 = .ok (.aload_n 0, 1) := by decide +kernel
theorem dX13_readNew_42 : decode cX13_readNew 42 = .ok (.getfield 101, 3) := by decide +kernel
theorem dX13_readNew_45 : decode cX13_readNew 45 = .ok (.iconst 1, 1) := by decide +kernel
theorem dX13_readNew_46 : decode cX13_readNew 46 = .ok (.iaload, 1) := by decide +kernel
theorem dX13_readNew_47 : decode cX13_readNew 47 = .ok (.aload_n 0, 1) := by decide +kernel
theorem dX13_readNew_48 : decode cX13_readNew 48 = .ok (.getfield 43, 3) := by decide +kernel
theorem dX13_readNew_51 : decode cX13_readNew 51 = .ok (.invokestatic 158, 3) := by decide +kernel
theorem dX13_readNew_54 : decode cX13_readNew 54 = .ok (.iconst (-1), 1) := by decide +kernel
theorem dX13_readNew_55 : decode cX13_readNew 55 = .ok (.if_icmp .ne 26, 3) := by decide +kernel
theorem dX13_readNew_58 : decode cX13_readNew 58 = .ok (.aload_n 0, 1) := by decide +kernel
theorem dX13_readNew_59 : decode cX13_readNew 59 = .ok (.getfield 117, 3) := by decide +kernel
theorem dX13_readNew_62 : decode cX13_readNew 62 = .ok (.bipush 12, 2) := by decide +kernel
theorem dX13_readNew_64 : decode cX13_readNew 64 = .ok (.aload_n 0, 1) := by decide +kernel
theorem dX13_readNew_65 : decode cX13_readNew 65 = .ok (.getfield 101, 3) := by decide +kernel
theorem dX13_readNew_68 : decode cX13_readNew 68 = .ok (.iconst 2, 1) := by decide +kernel
theorem dX13_readNew_69 : decode cX13_readNew 69 = .ok (.iaload, 1) := by decide +kernel
theorem dX13_readNew_70 : decode cX13_readNew 70 = .ok (.aload_n 0, 1) := by decide +kernel
theorem dX13_readNew_71 : decode cX13_readNew 71 = .ok (.getfield 43, 3) := by decide +kernel
theorem dX13_readNew_74 : decode cX13_readNew 74 = .ok (.invokestatic 158, 3) := by decide +kernel
theorem dX13_readNew_77 : decode cX13_readNew 77 = .ok (.iconst (-1), 1) := by decide +kernel
theorem dX13_readNew_78 : decode cX13_readNew 78 = .ok (.if_icmp .eq 9, 3) := by decide +kernel
theorem dX13_readNew_81 : decode cX13_readNew 81 = .ok (.aload_n 0, 1) := by decide +kernel
theorem dX13_readNew_82 : decode cX13_readNew 82 = .ok (.iconst 3, 1) := by decide +kernel
theorem dX13_readNew_83 : decode cX13_readNew 83 = .ok (.invokevirtual 72, 3) := by decide +kernel
theorem dX13_readNew_86 : decode cX13_readNew 86 = .ok (.ireturn, 1) := by decide +kernel
theorem dX13_readNew_87 : decode cX13_readNew 87 = .ok (.aload_n 0, 1) := by decide +kernel
theorem dX13_readNew_88 : decode cX13_readNew 88 = .ok (.getfield 117, 3) := by decide +kernel
theorem dX13_readNew_91 : decode cX13_readNew 91 = .ok (.iload_n 1, 1) := by decide +kernel
theorem dX13_readNew_92 : decode cX13_readNew 92 = .ok (.aload_n 0, 1) := by decide +kernel
theorem dX13_readNew_93 : decode cX13_readNew 93 = .ok (.getfield 43, 3) := by decide +kernel
theorem dX13_readNew_96 : decode cX13_readNew 96 = .ok (.lastore, 1) := by decide +kernel
theorem dX13_readNew_97 : decode cX13_readNew 97 = .ok (.aload_n 0, 1) := by decide +kernel
theorem dX13_readNew_98 : decode cX13_readNew 98 = .ok (.invokevirtual 82, 3) := by decide +kernel
theorem dX13_readNew_101 : decode cX13_readNew 101 = .ok (.iconst 1, 1) := by decide +kernel
theorem dX13_readNew_102 : decode cX13_readNew 102 = .ok (.ireturn, 1) := by decide +kernel
theorem dX13_isOne_0 : decode cX13_isOne 0 = .ok (.aload_n 0, 1) := by decide +kernel
theorem dX13_isOne_1 : decode cX13_isOne 1 = .ok (.invokevirtual 154, 3) := by decide +kernel
theorem dX13_isOne_4 : decode cX13_isOne 4 = .ok (.ifCond .ne 9, 3) := by decide +kernel
theorem dX13_isOne_7 : decode cX13_isOne 7 = .ok (.aload_n 0, 1) := by decide +kernel
theorem dX13_isOne_8 : decode cX13_isOne 8 = .ok (.iconst 1, 1) := by decide +kernel
theorem dX13_isOne_9 : decode cX13_isOne 9 = .ok (.invokevirtual 72, 3) := by decide +kernel
theorem dX13_isOne_12 : decode cX13_isOne 12 = .ok (.ireturn, 1) := by decide +kernel
theorem dX13_isOne_13 : decode cX13_isOne 13 = .ok (.aload_n 0, 1) := by decide +kernel
theorem dX13_isOne_14 : decode cX13_isOne 14 = .ok (.aload_n 0, 1) := by decide +kernel
theorem dX13_isOne_15 : decode cX13_isOne 15 = .ok (.getfield 117, 3) := by decide +kernel
theorem dX13_isOne_18 : decode cX13_isOne 18 = .ok (.iload_n 1, 1) := by decide +kernel
theorem dX13_isOne_19 : decode cX13_isOne 19 = .ok (.iload_n 2, 1) := by decide +kernel
theorem dX13_isOne_20 : decode cX13_isOne 20 = .ok (.aload_n 0, 1) := by decide +kernel
theorem dX13_isOne_21 : decode cX13_isOne 21 = .ok (.getfield 43, 3) := by decide +kernel
theorem dX13_isOne_24 : decode cX13_isOne 24 = .ok (.invokestatic 158, 3) := by decide +kernel
theorem dX13_isOne_27 : decode cX13_isOne 27 = .ok (.putfield 79, 3) := by decide +kernel
theorem dX13_isOne_30 : decode cX13_isOne 30 = .ok (.aload_n 0, 1) := by decide +kernel
theorem dX13_isOne_31 : decode cX13_isOne 31 = .ok (.getfield 79, 3) := by decide +kernel
theorem dX13_isOne_34 : decode cX13_isOne 34 = .ok (.iconst (-1), 1) := by decide +kernel
theorem dX13_isOne_35 : decode cX13_isOne 35 = .ok (.if_icmp .ne 11, 3) := by decide +kernel
theorem dX13_isOne_38 : decode cX13_isOne 38 = .ok (.aload_n 0, 1) := by decide +kernel
theorem dX13_isOne_39 : decode cX13_isOne 39 = .ok (.iconst 3, 1) := by decide +kernel
theorem dX13_isOne_40 : decode cX13_isOne 40 = .ok (.invokevirtual 72, 3) := by decide +kernel
theorem dX13_isOne_43 : decode cX13_isOne 43 = .ok (.ifCond .eq 7, 3) := by decide +kernel
theorem dX13_isOne_46 : decode cX13_isOne 46 = .ok (.iconst 1, 1) := by decide +kernel
theorem dX13_isOne_47 : decode cX13_isOne 47 = .ok (.goto 4, 3) := by decide +kernel
theorem dX13_isOne_50 : decode cX13_isOne 50 = .ok (.iconst 0, 1) := by decide +kernel
theorem dX13_isOne_51 : decode cX13_isOne 51 = .ok (.ireturn, 1) := by decide +kernel
theorem dX13_readOne_0 : decode cX13_readOne 0 = .ok (.aload_n 0, 1) := by decide +kernel
theorem dX13_readOne_1 : decode cX13_readOne 1 = .ok (.iload_n 1, 1) := by decide +kernel
theorem dX13_readOne_2 : decode cX13_readOne 2 = .ok (.iload_n 2, 1) := by decide +kernel
theorem dX13_readOne_3 : decode cX13_readOne 3 = .ok (.invokevirtual 162, 3) := by decide +kernel
theorem dX13_readOne_6 : decode cX13_readOne 6 = .ok (.ifCond .ne 5, 3) := by decide +kernel
theorem dX13_readOne_9 : decode cX13_readOne 9 = .ok (.iconst 0, 1) := by decide +kernel
theorem dX13_readOne_10 : decode cX13_readOne 10 = .ok (.ireturn, 1) := by decide +kernel
theorem dX13_readOne_11 : decode cX13_readOne 11 = .ok (.aload_n 0, 1) := by decide +kernel
theorem dX13_readOne_12 : decode cX13_readOne 12 = .ok (.invokevirtual 82, 3) := by decide +kernel
theorem dX13_readOne_15 : decode cX13_readOne 15 = .ok (.iconst 1, 1) := by decide +kernel
theorem dX13_readOne_16 : decode cX13_readOne 16 = .ok (.ireturn, 1) := by decide +kernel
theorem dX13_readFirst_0 : decode cX13_readFirst 0 = .ok (.aload_n 0, 1) := by decide +kernel
theorem dX13_readFirst_1 : decode cX13_readFirst 1 = .ok (.getfield 101, 3) := by decide +kernel
theorem dX13_readFirst_4 : decode cX13_readFirst 4 = .ok (.iload_n 1, 1) := by decide +kernel
theorem dX13_readFirst_5 : decode cX13_readFirst 5 = .ok (.iaload, 1) := by decide +kernel
theorem dX13_readFirst_6 : decode cX13_readFirst 6 = .ok (.iload_n 2, 1) := by decide +kernel
theorem dX13_readFirst_7 : decode cX13_readFirst 7 = .ok (.if_icmp .ne 9, 3) := by decide +kernel
theorem dX13_readFirst_10 : decode cX13_readFirst 10 = .ok (.aload_n 0, 1) := by decide +kernel
theorem dX13_readFirst_11 : decode cX13_readFirst 11 = .ok (.iconst 4, 1) := by decide +kernel
theorem dX13_readFirst_12 : decode cX13_readFirst 12 = .ok (.invokevirtual 72, 3) := by decide +kernel
theorem dX13_readFirst_15 : decode cX13_readFirst 15 = .ok (.ireturn, 1) := by decide +kernel
theorem dX13_readFirst_16 : decode cX13_readFirst 16 = .ok (.aload_n 0, 1) := by decide +kernel
theorem dX13_readFirst_17 : decode cX13_readFirst 17 = .ok (.invokevirtual 82, 3) := by decide +kernel
theorem dX13_readFirst_20 : decode cX13_readFirst 20 = .ok (.iconst 1, 1) := by decide +kernel
theorem dX13_readFirst_21 : decode cX13_readFirst 21 = .ok (.ireturn, 1) := by decide +kernel
theorem dX13_put_0 : decode cX13_put 0 = .ok (.iload_n 2, 1) := by decide +kernel
theorem dX13_put_1 : decode cX13_put 1 = .ok (.ifCond .eq 13, 3) := by decide +kernel
theorem dX13_put_4 : decode cX13_put 4 = .ok (.aload_n 0, 1) := by decide +kernel
theorem dX13_put_5 : decode cX13_put 5 = .ok (.getfield 101, 3) := by decide +kernel
theorem dX13_put_8 : decode cX13_put 8 = .ok (.iload_n 1, 1) := by decide +kernel
theorem dX13_put_9 : decode cX13_put 9 = .ok (.aload_n 0, 1) := by decide +kernel
theorem dX13_put_10 : decode cX13_put 10 = .ok (.getfield 79, 3) := by decide +kernel
theorem dX13_put_13 : decode cX13_put 13 = .ok (.iastore, 1) := by decide +kernel
theorem dX13_put_14 : decode cX13_put 14 = .ok (.iload_n 2, 1) := by decide +kernel
theorem dX13_put_15 : decode cX13_put 15 = .ok (.ireturn, 1) := by decide +kernel
theorem dX13_readPerson_0 : decode cX13_readPerson 0 = .ok (.aload_n 0, 1) := by decide +kernel
theorem dX13_readPerson_1 : decode cX13_readPerson 1 = .ok (.iconst 0, 1) := by decide +kernel
theorem dX13_readPerson_2 : decode cX13_readPerson 2 = .ok (.bipush 8, 2) := by decide +kernel
theorem dX13_readPerson_4 : decode cX13_readPerson 4 = .ok (.invokevirtual 166, 3) := by decide +kernel
theorem dX13_readPerson_7 : decode cX13_readPerson 7 = .ok (.ifCond .ne 5, 3) := by decide +kernel
theorem dX13_readPerson_10 : decode cX13_readPerson 10 = .ok (.iconst 0, 1) := by decide +kernel
theorem dX13_readPerson_11 : decode cX13_readPerson 11 = .ok (.ireturn, 1) := by decide +kernel
theorem dX13_readPerson_12 : decode cX13_readPerson 12 = .ok (.aload_n 0, 1) := by decide +kernel
theorem dX13_readPerson_13 : decode cX13_readPerson 13 = .ok (.getfield 101, 3) := by decide +kernel
theorem dX13_readPerson_16 : decode cX13_readPerson 16 = .ok (.iconst 0, 1) := by decide +kernel
theorem dX13_readPerson_17 : decode cX13_readPerson 17 = .ok (.iaload, 1) := by decide +kernel
theorem dX13_readPerson_18 : decode cX13_readPerson 18 = .ok (.istore_n 1, 1) := by decide +kernel
theorem dX13_readPerson_19 : decode cX13_readPerson 19 = .ok (.aload_n 0, 1) := by decide +kernel
theorem dX13_readPerson_20 : decode cX13_readPerson 20 = .ok (.iload_n 1, 1) := by decide +kernel
theorem dX13_readPerson_21 : decode cX13_readPerson 21 = .ok (.invokevirtual 169, 3) := by decide +kernel
theorem dX13_readPerson_24 : decode cX13_readPerson 24 = .ok (.ifCond .eq 57, 3) := by decide +kernel
theorem dX13_readPerson_27 : decode cX13_readPerson 27 = .ok (.aload_n 0, 1) := by decide +kernel
theorem dX13_readPerson_28 : decode cX13_readPerson 28 = .ok (.bipush 8, 2) := by decide +kernel
theorem dX13_readPerson_30 : decode cX13_readPerson 30 = .ok (.iload_n 1, 1) := by decide +kernel
theorem dX13_readPerson_31 : decode cX13_readPerson 31 = .ok (.iadd, 1) := by decide +kernel
theorem dX13_readPerson_32 : decode cX13_readPerson 32 = .ok (.aload_n 0, 1) := by decide +kernel
theorem dX13_readPerson_33 : decode cX13_readPerson 33 = .ok (.iconst 0, 1) := by decide +kernel
theorem dX13_readPerson_34 : decode cX13_readPerson 34 = .ok (.bipush 23, 2) := by decide +kernel
theorem dX13_readPerson_36 : decode cX13_readPerson 36 = .ok (.invokevirtual 172, 3) := by decide +kernel
theorem dX13_readPerson_39 : decode cX13_readPerson 39 = .ok (.invokevirtual 175, 3) := by decide +kernel
theorem dX13_readPerson_42 : decode cX13_readPerson 42 = .ok (.ifCond .eq 39, 3) := by decide +kernel
theorem dX13_readPerson_45 : decode cX13_readPerson 45 = .ok (.aload_n 0, 1) := by decide +kernel
theorem dX13_readPerson_46 : decode cX13_readPerson 46 = .ok (.bipush 16, 2) := by decide +kernel
theorem dX13_readPerson_48 : decode cX13_readPerson 48 = .ok (.iload_n 1, 1) := by decide +kernel
theorem dX13_readPerson_49 : decode cX13_readPerson 49 = .ok (.iadd, 1) := by decide +kernel
theorem dX13_readPerson_50 : decode cX13_readPerson 50 = .ok (.aload_n 0, 1) := by decide +kernel
theorem dX13_readPerson_51 : decode cX13_readPerson 51 = .ok (.iconst 0, 1) := by decide +kernel
theorem dX13_readPerson_52 : decode cX13_readPerson 52 = .ok (.bipush 23, 2) := by decide +kernel
theorem dX13_readPerson_54 : decode cX13_readPerson 54 = .ok (.invokevirtual 172, 3) := by decide +kernel
theorem dX13_readPerson_57 : decode cX13_readPerson 57 = .ok (.invokevirtual 175, 3) := by decide +kernel
theorem dX13_readPerson_60 : decode cX13_readPerson 60 = .ok (.ifCond .eq 21, 3) := by decide +kernel
theorem dX13_readPerson_63 : decode cX13_readPerson 63 = .ok (.aload_n 0, 1) := by decide +kernel
theorem dX13_readPerson_64 : decode cX13_readPerson 64 = .ok (.bipush 24, 2) := by decide +kernel
theorem dX13_readPerson_66 : decode cX13_readPerson 66 = .ok (.iload_n 1, 1) := by decide +kernel
theorem dX13_readPerson_67 : decode cX13_readPerson 67 = .ok (.iadd, 1) := by decide +kernel
theorem dX13_readPerson_68 : decode cX13_readPerson 68 = .ok (.aload_n 0, 1) := by decide +kernel
theorem dX13_readPerson_69 : decode cX13_readPerson 69 = .ok (.iconst 0, 1) := by decide +kernel
theorem dX13_readPerson_70 : decode cX13_readPerson 70 = .ok (.bipush 99, 2) := by decide +kernel
theorem dX13_readPerson_72 : decode cX13_readPerson 72 = .ok (.invokevirtual 172, 3) := by decide +kernel
theorem dX13_readPerson_75 : decode cX13_readPerson 75 = .ok (.invokevirtual 175, 3) := by decide +kernel
theorem dX13_readPerson_78 : decode cX13_readPerson 78 = .ok (.ifCond .ne 5, 3) := by decide +kernel
theorem dX13_readPerson_81 : decode cX13_readPerson 81 = .ok (.iconst 0, 1) := by decide +kernel
theorem dX13_readPerson_82 : decode cX13_readPerson 82 = .ok (.ireturn, 1) := by decide +kernel
theorem dX13_readPerson_83 : decode cX13_readPerson 83 = .ok (.aload_n 0, 1) := by decide +kernel
theorem dX13_readPerson_84 : decode cX13_readPerson 84 = .ok (.getfield 101, 3) := by decide +kernel
theorem dX13_readPerson_87 : decode cX13_readPerson 87 = .ok (.iconst 0, 1) := by decide +kernel
theorem dX13_readPerson_88 : decode cX13_readPerson 88 = .ok (.dup2, 1) := by decide +kernel
theorem dX13_readPerson_89 : decode cX13_readPerson 89 = .ok (.iaload, 1) := by decide +kernel
theorem dX13_readPerson_90 : decode cX13_readPerson 90 = .ok (.iconst 1, 1) := by decide +kernel
theorem dX13_readPerson_91 : decode cX13_readPerson 91 = .ok (.iadd, 1) := by decide +kernel
theorem dX13_readPerson_92 : decode cX13_readPerson 92 = .ok (.iastore, 1) := by decide +kernel
theorem dX13_readPerson_93 : decode cX13_readPerson 93 = .ok (.iconst 1, 1) := by decide +kernel
theorem dX13_readPerson_94 : decode cX13_readPerson 94 = .ok (.ireturn, 1) := by decide +kernel
theorem dX13_readFonder_0 : decode cX13_readFonder 0 = .ok (.aload_n 0, 1) := by decide +kernel
theorem dX13_readFonder_1 : decode cX13_readFonder 1 = .ok (.invokevirtual 82, 3) := by decide +kernel
theorem dX13_readFonder_4 : decode cX13_readFonder 4 = .ok (.aload_n 0, 1) := by decide +kernel
theorem dX13_readFonder_5 : decode cX13_readFonder 5 = .ok (.iconst 0, 1) := by decide +kernel
theorem dX13_readFonder_6 : decode cX13_readFonder 6 = .ok (.aload_n 0, 1) := by decide +kernel
theorem dX13_readFonder_7 : decode cX13_readFonder 7 = .ok (.getfield 101, 3) := by decide +kernel
theorem dX13_readFonder_10 : decode cX13_readFonder 10 = .ok (.iconst 0, 1) := by decide +kernel
theorem dX13_readFonder_11 : decode cX13_readFonder 11 = .ok (.iaload, 1) := by decide +kernel
theorem dX13_readFonder_12 : decode cX13_readFonder 12 = .ok (.invokevirtual 162, 3) := by decide +kernel
theorem dX13_readFonder_15 : decode cX13_readFonder 15 = .ok (.ifCond .ne 5, 3) := by decide +kernel
theorem dX13_readFonder_18 : decode cX13_readFonder 18 = .ok (.iconst 0, 1) := by decide +kernel
theorem dX13_readFonder_19 : decode cX13_readFonder 19 = .ok (.ireturn, 1) := by decide +kernel
theorem dX13_readFonder_20 : decode cX13_readFonder 20 = .ok (.aload_n 0, 1) := by decide +kernel
theorem dX13_readFonder_21 : decode cX13_readFonder 21 = .ok (.getfield 79, 3) := by decide +kernel
theorem dX13_readFonder_24 : decode cX13_readFonder 24 = .ok (.istore_n 2, 1) := by decide +kernel
theorem dX13_readFonder_25 : decode cX13_readFonder 25 = .ok (.aload_n 0, 1) := by decide +kernel
theorem dX13_readFonder_26 : decode cX13_readFonder 26 = .ok (.getfield 101, 3) := by decide +kernel
theorem dX13_readFonder_29 : decode cX13_readFonder 29 = .ok (.iload_n 1, 1) := by decide +kernel
theorem dX13_readFonder_30 : decode cX13_readFonder 30 = .ok (.iload_n 2, 1) := by decide +kernel
theorem dX13_readFonder_31 : decode cX13_readFonder 31 = .ok (.iadd, 1) := by decide +kernel
theorem dX13_readFonder_32 : decode cX13_readFonder 32 = .ok (.iaload, 1) := by decide +kernel
theorem dX13_readFonder_33 : decode cX13_readFonder 33 = .ok (.ifCond .le 9, 3) := by decide +kernel
theorem dX13_readFonder_36 : decode cX13_readFonder 36 = .ok (.aload_n 0, 1) := by decide +kernel
theorem dX13_readFonder_37 : decode cX13_readFonder 37 = .ok (.iconst 3, 1) := by decide +kernel
theorem dX13_readFonder_38 : decode cX13_readFonder 38 = .ok (.invokevirtual 72, 3) := by decide +kernel
theorem dX13_readFonder_41 : decode cX13_readFonder 41 = .ok (.ireturn, 1) := by decide +kernel
theorem dX13_readFonder_42 : decode cX13_readFonder 42 = .ok (.aload_n 0, 1) := by decide +kernel
theorem dX13_readFonder_43 : decode cX13_readFonder 43 = .ok (.invokevirtual 82, 3) := by decide +kernel
theorem dX13_readFonder_46 : decode cX13_readFonder 46 = .ok (.aload_n 0, 1) := by decide +kernel
theorem dX13_readFonder_47 : decode cX13_readFonder 47 = .ok (.iload_n 1, 1) := by decide +kernel
theorem dX13_readFonder_48 : decode cX13_readFonder 48 = .ok (.iload_n 2, 1) := by decide +kernel
theorem dX13_readFonder_49 : decode cX13_readFonder 49 = .ok (.iadd, 1) := by decide +kernel
theorem dX13_readFonder_50 : decode cX13_readFonder 50 = .ok (.aload_n 0, 1) := by decide +kernel
theorem dX13_readFonder_51 : decode cX13_readFonder 51 = .ok (.iconst 1, 1) := by decide +kernel
theorem dX13_readFonder_52 : decode cX13_readFonder 52 = .ok (.bipush 9, 2) := by decide +kernel
theorem dX13_readFonder_54 : decode cX13_readFonder 54 = .ok (.invokevirtual 172, 3) := by decide +kernel
theorem dX13_readFonder_57 : decode cX13_readFonder 57 = .ok (.invokevirtual 175, 3) := by decide +kernel
theorem dX13_readFonder_60 : decode cX13_readFonder 60 = .ok (.ireturn, 1) := by decide +kernel
theorem dX13_readGlass_0 : decode cX13_readGlass 0 = .ok (.aload_n 0, 1) := by decide +kernel
theorem dX13_readGlass_1 : decode cX13_readGlass 1 = .ok (.iconst 1, 1) := by decide +kernel
theorem dX13_readGlass_2 : decode cX13_readGlass 2 = .ok (.iconst 4, 1) := by decide +kernel
theorem dX13_readGlass_3 : decode cX13_readGlass 3 = .ok (.invokevirtual 166, 3) := by decide +kernel
theorem dX13_readGlass_6 : decode cX13_readGlass 6 = .ok (.ifCond .ne 5, 3) := by decide +kernel
theorem dX13_readGlass_9 : decode cX13_readGlass 9 = .ok (.iconst 0, 1) := by decide +kernel
theorem dX13_readGlass_10 : decode cX13_readGlass 10 = .ok (.ireturn, 1) := by decide +kernel
theorem dX13_readGlass_11 : decode cX13_readGlass 11 = .ok (.aload_n 0, 1) := by decide +kernel
theorem dX13_readGlass_12 : decode cX13_readGlass 12 = .ok (.getfield 101, 3) := by decide +kernel
theorem dX13_readGlass_15 : decode cX13_readGlass 15 = .ok (.iconst 1, 1) := by decide +kernel
theorem dX13_readGlass_16 : decode cX13_readGlass 16 = .ok (.iaload, 1) := by decide +kernel
theorem dX13_readGlass_17 : decode cX13_readGlass 17 = .ok (.istore_n 1, 1) := by decide +kernel
theorem dX13_readGlass_18 : decode cX13_readGlass 18 = .ok (.aload_n 0, 1) := by decide +kernel
theorem dX13_readGlass_19 : decode cX13_readGlass 19 = .ok (.bipush 8, 2) := by decide +kernel
theorem dX13_readGlass_21 : decode cX13_readGlass 21 = .ok (.iload_n 1, 1) := by decide +kernel
theorem dX13_readGlass_22 : decode cX13_readGlass 22 = .ok (.iadd, 1) := by decide +kernel
theorem dX13_readGlass_23 : decode cX13_readGlass 23 = .ok (.invokevirtual 169, 3) := by decide +kernel
theorem dX13_readGlass_26 : decode cX13_readGlass 26 = .ok (.ifCond .eq 17, 3) := by decide +kernel
theorem dX13_readGlass_29 : decode cX13_readGlass 29 = .ok (.aload_n 0, 1) := by decide +kernel
theorem dX13_readGlass_30 : decode cX13_readGlass 30 = .ok (.iconst 0, 1) := by decide +kernel
theorem dX13_readGlass_31 : decode cX13_readGlass 31 = .ok (.aload_n 0, 1) := by decide +kernel
theorem dX13_readGlass_32 : decode cX13_readGlass 32 = .ok (.getfield 101, 3) := by decide +kernel
theorem dX13_readGlass_35 : decode cX13_readGlass 35 = .ok (.iconst 0, 1) := by decide +kernel
theorem dX13_readGlass_36 : decode cX13_readGlass 36 = .ok (.iaload, 1) := by decide +kernel
theorem dX13_readGlass_37 : decode cX13_readGlass 37 = .ok (.invokevirtual 162, 3) := by decide +kernel
theorem dX13_readGlass_40 : decode cX13_readGlass 40 = .ok (.ifCond .ne 5, 3) := by decide +kernel
theorem dX13_readGlass_43 : decode cX13_readGlass 43 = .ok (.iconst 0, 1) := by decide +kernel
theorem dX13_readGlass_44 : decode cX13_readGlass 44 = .ok (.ireturn, 1) := by decide +kernel
theorem dX13_readGlass_45 : decode cX13_readGlass 45 = .ok (.aload_n 0, 1) := by decide +kernel
theorem dX13_readGlass_46 : decode cX13_readGlass 46 = .ok (.getfield 79, 3) := by decide +kernel
theorem dX13_readGlass_49 : decode cX13_readGlass 49 = .ok (.istore_n 2, 1) := by decide +kernel
theorem dX13_readGlass_50 : decode cX13_readGlass 50 = .ok (.aload_n 0, 1) := by decide +kernel
theorem dX13_readGlass_51 : decode cX13_readGlass 51 = .ok (.getfield 101, 3) := by decide +kernel
theorem dX13_readGlass_54 : decode cX13_readGlass 54 = .ok (.bipush 48, 2) := by decide +kernel
theorem dX13_readGlass_56 : decode cX13_readGlass 56 = .ok (.iload_n 2, 1) := by decide +kernel
theorem dX13_readGlass_57 : decode cX13_readGlass 57 = .ok (.iadd, 1) := by decide +kernel
theorem dX13_readGlass_58 : decode cX13_readGlass 58 = .ok (.iaload, 1) := by decide +kernel
theorem dX13_readGlass_59 : decode cX13_readGlass 59 = .ok (.iconst (-1), 1) := by decide +kernel
theorem dX13_readGlass_60 : decode cX13_readGlass 60 = .ok (.if_icmp .eq 9, 3) := by decide +kernel
theorem dX13_readGlass_63 : decode cX13_readGlass 63 = .ok (.aload_n 0, 1) := by decide +kernel
theorem dX13_readGlass_64 : decode cX13_readGlass 64 = .ok (.iconst 3, 1) := by decide +kernel
theorem dX13_readGlass_65 : decode cX13_readGlass 65 = .ok (.invokevirtual 72, 3) := by decide +kernel
theorem dX13_readGlass_68 : decode cX13_readGlass 68 = .ok (.ireturn, 1) := by decide +kernel
theorem dX13_readGlass_69 : decode cX13_readGlass 69 = .ok (.aload_n 0, 1) := by decide +kernel
theorem dX13_readGlass_70 : decode cX13_readGlass 70 = .ok (.invokevirtual 82, 3) := by decide +kernel
theorem dX13_readGlass_73 : decode cX13_readGlass 73 = .ok (.aload_n 0, 1) := by decide +kernel
theorem dX13_readGlass_74 : decode cX13_readGlass 74 = .ok (.iconst 0, 1) := by decide +kernel
theorem dX13_readGlass_75 : decode cX13_readGlass 75 = .ok (.aload_n 0, 1) := by decide +kernel
theorem dX13_readGlass_76 : decode cX13_readGlass 76 = .ok (.getfield 101, 3) := by decide +kernel
theorem dX13_readGlass_79 : decode cX13_readGlass 79 = .ok (.iconst 0, 1) := by decide +kernel
theorem dX13_readGlass_80 : decode cX13_readGlass 80 = .ok (.iaload, 1) := by decide +kernel
theorem dX13_readGlass_81 : decode cX13_readGlass 81 = .ok (.invokevirtual 162, 3) := by decide +kernel
theorem dX13_readGlass_84 : decode cX13_readGlass 84 = .ok (.ifCond .ne 5, 3) := by decide +kernel
theorem dX13_readGlass_87 : decode cX13_readGlass 87 = .ok (.iconst 0, 1) := by decide +kernel
theorem dX13_readGlass_88 : decode cX13_readGlass 88 = .ok (.ireturn, 1) := by decide +kernel
theorem dX13_readGlass_89 : decode cX13_readGlass 89 = .ok (.aload_n 0, 1) := by decide +kernel
theorem dX13_readGlass_90 : decode cX13_readGlass 90 = .ok (.getfield 79, 3) := by decide +kernel
theorem dX13_readGlass_93 : decode cX13_readGlass 93 = .ok (.istore_n 3, 1) := by decide +kernel
theorem dX13_readGlass_94 : decode cX13_readGlass 94 = .ok (.iload_n 2, 1) := by decide +kernel
theorem dX13_readGlass_95 : decode cX13_readGlass 95 = .ok (.iload_n 3, 1) := by decide +kernel
theorem dX13_readGlass_96 : decode cX13_readGlass 96 = .ok (.if_icmp .eq 16, 3) := by decide +kernel
theorem dX13_readGlass_99 : decode cX13_readGlass 99 = .ok (.aload_n 0, 1) := by decide +kernel
theorem dX13_readGlass_100 : decode cX13_readGlass 100 = .ok (.getfield 101, 3) := by decide +kernel
theorem dX13_readGlass_103 : decode cX13_readGlass 103 = .ok (.bipush 48, 2) := by decide +kernel
theorem dX13_readGlass_105 : decode cX13_readGlass 105 = .ok (.iload_n 3, 1) := by decide +kernel
theorem dX13_readGlass_106 : decode cX13_readGlass 106 = .ok (.iadd, 1) := by decide +kernel
theorem dX13_readGlass_107 : decode cX13_readGlass 107 = .ok (.iaload, 1) := by decide +kernel
theorem dX13_readGlass_108 : decode cX13_readGlass 108 = .ok (.iconst (-1), 1) := by decide +kernel
theorem dX13_readGlass_109 : decode cX13_readGlass 109 = .ok (.if_icmp .eq 9, 3) := by decide +kernel
theorem dX13_readGlass_112 : decode cX13_readGlass 112 = .ok (.aload_n 0, 1) := by decide +kernel
theorem dX13_readGlass_113 : decode cX13_readGlass 113 = .ok (.iconst 3, 1) := by decide +kernel
theorem dX13_readGlass_114 : decode cX13_readGlass 114 = .ok (.invokevirtual 72, 3) := by decide +kernel
theorem dX13_readGlass_117 : decode cX13_readGlass 117 = .ok (.ireturn, 1) := by decide +kernel
theorem dX13_readGlass_118 : decode cX13_readGlass 118 = .ok (.aload_n 0, 1) := by decide +kernel
theorem dX13_readGlass_119 : decode cX13_readGlass 119 = .ok (.invokevirtual 82, 3) := by decide +kernel
theorem dX13_readGlass_122 : decode cX13_readGlass 122 = .ok (.aload_n 0, 1) := by decide +kernel
theorem dX13_readGlass_123 : decode cX13_readGlass 123 = .ok (.bipush 64, 2) := by decide +kernel
theorem dX13_readGlass_125 : decode cX13_readGlass 125 = .ok (.iload_n 1, 1) := by decide +kernel
theorem dX13_readGlass_126 : decode cX13_readGlass 126 = .ok (.iadd, 1) := by decide +kernel
theorem dX13_readGlass_127 : decode cX13_readGlass 127 = .ok (.aload_n 0, 1) := by decide +kernel
theorem dX13_readGlass_128 : decode cX13_readGlass 128 = .ok (.iconst 1, 1) := by decide +kernel
theorem dX13_readGlass_129 : decode cX13_readGlass 129 = .ok (.sipush 250, 3) := by decide +kernel
theorem dX13_readGlass_132 : decode cX13_readGlass 132 = .ok (.invokevirtual 172, 3) := by decide +kernel
theorem dX13_readGlass_135 : decode cX13_readGlass 135 = .ok (.invokevirtual 175, 3) := by decide +kernel
theorem dX13_readGlass_138 : decode cX13_readGlass 138 = .ok (.ifCond .eq 21, 3) := by decide +kernel
theorem dX13_readGlass_141 : decode cX13_readGlass 141 = .ok (.aload_n 0, 1) := by decide +kernel
theorem dX13_readGlass_142 : decode cX13_readGlass 142 = .ok (.bipush 68, 2) := by decide +kernel
theorem dX13_readGlass_144 : decode cX13_readGlass 144 = .ok (.iload_n 1, 1) := by decide +kernel
theorem dX13_readGlass_145 : decode cX13_readGlass 145 = .ok (.iadd, 1) := by decide +kernel
theorem dX13_readGlass_146 : decode cX13_readGlass 146 = .ok (.aload_n 0, 1) := by decide +kernel
theorem dX13_readGlass_147 : decode cX13_readGlass 147 = .ok (.iconst 1, 1) := by decide +kernel
theorem dX13_readGlass_148 : decode cX13_readGlass 148 = .ok (.bipush 9, 2) := by decide +kernel
theorem dX13_readGlass_150 : decode cX13_readGlass 150 = .ok (.invokevirtual 172, 3) := by decide +kernel
theorem dX13_readGlass_153 : decode cX13_readGlass 153 = .ok (.invokevirtual 175, 3) := by decide +kernel
theorem dX13_readGlass_156 : decode cX13_readGlass 156 = .ok (.ifCond .ne 5, 3) := by decide +kernel
theorem dX13_readGlass_159 : decode cX13_readGlass 159 = .ok (.iconst 0, 1) := by decide +kernel
theorem dX13_readGlass_160 : decode cX13_readGlass 160 = .ok (.ireturn, 1) := by decide +kernel
theorem dX13_readGlass_161 : decode cX13_readGlass 161 = .ok (.aload_n 0, 1) := by decide +kernel
theorem dX13_readGlass_162 : decode cX13_readGlass 162 = .ok (.getfield 101, 3) := by decide +kernel
theorem dX13_readGlass_165 : decode cX13_readGlass 165 = .ok (.bipush 56, 2) := by decide +kernel
theorem dX13_readGlass_167 : decode cX13_readGlass 167 = .ok (.iload_n 1, 1) := by decide +kernel
theorem dX13_readGlass_168 : decode cX13_readGlass 168 = .ok (.iadd, 1) := by decide +kernel
theorem dX13_readGlass_169 : decode cX13_readGlass 169 = .ok (.iload_n 2, 1) := by decide +kernel
theorem dX13_readGlass_170 : decode cX13_readGlass 170 = .ok (.iastore, 1) := by decide +kernel
theorem dX13_readGlass_171 : decode cX13_readGlass 171 = .ok (.aload_n 0, 1) := by decide +kernel
theorem dX13_readGlass_172 : decode cX13_readGlass 172 = .ok (.getfield 101, 3) := by decide +kernel
theorem dX13_readGlass_175 : decode cX13_readGlass 175 = .ok (.bipush 60, 2) := by decide +kernel
theorem dX13_readGlass_177 : decode cX13_readGlass 177 = .ok (.iload_n 1, 1) := by decide +kernel
theorem dX13_readGlass_178 : decode cX13_readGlass 178 = .ok (.iadd, 1) := by decide +kernel
theorem dX13_readGlass_179 : decode cX13_readGlass 179 = .ok (.iload_n 3, 1) := by decide +kernel
theorem dX13_readGlass_180 : decode cX13_readGlass 180 = .ok (.iastore, 1) := by decide +kernel
theorem dX13_readGlass_181 : decode cX13_readGlass 181 = .ok (.aload_n 0, 1) := by decide +kernel
theorem dX13_readGlass_182 : decode cX13_readGlass 182 = .ok (.getfield 101, 3) := by decide +kernel
theorem dX13_readGlass_185 : decode cX13_readGlass 185 = .ok (.bipush 48, 2) := by decide +kernel
theorem dX13_readGlass_187 : decode cX13_readGlass 187 = .ok (.iload_n 2, 1) := by decide +kernel
theorem dX13_readGlass_188 : decode cX13_readGlass 188 = .ok (.iadd, 1) := by decide +kernel
theorem dX13_readGlass_189 : decode cX13_readGlass 189 = .ok (.iload_n 1, 1) := by decide +kernel
theorem dX13_readGlass_190 : decode cX13_readGlass 190 = .ok (.iastore, 1) := by decide +kernel
theorem dX13_readGlass_191 : decode cX13_readGlass 191 = .ok (.aload_n 0, 1) := by decide +kernel
theorem dX13_readGlass_192 : decode cX13_readGlass 192 = .ok (.getfield 101, 3) := by decide +kernel
theorem dX13_readGlass_195 : decode cX13_readGlass 195 = .ok (.bipush 48, 2) := by decide +kernel
theorem dX13_readGlass_197 : decode cX13_readGlass 197 = .ok (.iload_n 3, 1) := by decide +kernel
theorem dX13_readGlass_198 : decode cX13_readGlass 198 = .ok (.iadd, 1) := by decide +kernel
theorem dX13_readGlass_199 : decode cX13_readGlass 199 = .ok (.iload_n 1, 1) := by decide +kernel
theorem dX13_readGlass_200 : decode cX13_readGlass 200 = .ok (.iastore, 1) := by decide +kernel
theorem dX13_readGlass_201 : decode cX13_readGlass 201 = .ok (.aload_n 0, 1) := by decide +kernel
theorem dX13_readGlass_202 : decode cX13_readGlass 202 = .ok (.getfield 101, 3) := by decide +kernel
theorem dX13_readGlass_205 : decode cX13_readGlass 205 = .ok (.iconst 1, 1) := by decide +kernel
theorem dX13_readGlass_206 : decode cX13_readGlass 206 = .ok (.dup2, 1) := by decide +kernel
theorem dX13_readGlass_207 : decode cX13_readGlass 207 = .ok (.iaload, 1) := by decide +kernel
theorem dX13_readGlass_208 : decode cX13_readGlass 208 = .ok (.iconst 1, 1) := by decide +kernel
theorem dX13_readGlass_209 : decode cX13_readGlass 209 = .ok (.iadd, 1) := by decide +kernel
theorem dX13_readGlass_210 : decode cX13_readGlass 210 = .ok (.iastore, 1) := by decide +kernel
theorem dX13_readGlass_211 : decode cX13_readGlass 211 = .ok (.iconst 1, 1) := by decide +kernel
theorem dX13_readGlass_212 : decode cX13_readGlass 212 = .ok (.ireturn, 1) := by decide +kernel
theorem dX13_readDamp_0 : decode cX13_readDamp 0 = .ok (.aload_n 0, 1) := by decide +kernel
theorem dX13_readDamp_1 : decode cX13_readDamp 1 = .ok (.bipush 7, 2) := by decide +kernel
theorem dX13_readDamp_3 : decode cX13_readDamp 3 = .ok (.bipush 6, 2) := by decide +kernel
theorem dX13_readDamp_5 : decode cX13_readDamp 5 = .ok (.invokevirtual 166, 3) := by decide +kernel
theorem dX13_readDamp_8 : decode cX13_readDamp 8 = .ok (.ifCond .ne 5, 3) := by decide +kernel
theorem dX13_readDamp_11 : decode cX13_readDamp 11 = .ok (.iconst 0, 1) := by decide +kernel
theorem dX13_readDamp_12 : decode cX13_readDamp 12 = .ok (.ireturn, 1) := by decide +kernel
theorem dX13_readDamp_13 : decode cX13_readDamp 13 = .ok (.aload_n 0, 1) := by decide +kernel
theorem dX13_readDamp_14 : decode cX13_readDamp 14 = .ok (.getfield 101, 3) := by decide +kernel
theorem dX13_readDamp_17 : decode cX13_readDamp 17 = .ok (.bipush 7, 2) := by decide +kernel
theorem dX13_readDamp_19 : decode cX13_readDamp 19 = .ok (.iaload, 1) := by decide +kernel
theorem dX13_readDamp_20 : decode cX13_readDamp 20 = .ok (.istore_n 1, 1) := by decide +kernel
theorem dX13_readDamp_21 : decode cX13_readDamp 21 = .ok (.aload_n 0, 1) := by decide +kernel
theorem dX13_readDamp_22 : decode cX13_readDamp 22 = .ok (.bipush 72, 2) := by decide +kernel
theorem dX13_readDamp_24 : decode cX13_readDamp 24 = .ok (.iload_n 1, 1) := by decide +kernel
theorem dX13_readDamp_25 : decode cX13_readDamp 25 = .ok (.iadd, 1) := by decide +kernel
theorem dX13_readDamp_26 : decode cX13_readDamp 26 = .ok (.aload_n 0, 1) := by decide +kernel
theorem dX13_readDamp_27 : decode cX13_readDamp 27 = .ok (.iconst 0, 1) := by decide +kernel
theorem dX13_readDamp_28 : decode cX13_readDamp 28 = .ok (.sipush 599, 3) := by decide +kernel
theorem dX13_readDamp_31 : decode cX13_readDamp 31 = .ok (.invokevirtual 172, 3) := by decide +kernel
theorem dX13_readDamp_34 : decode cX13_readDamp 34 = .ok (.invokevirtual 175, 3) := by decide +kernel
theorem dX13_readDamp_37 : decode cX13_readDamp 37 = .ok (.ifCond .eq 30, 3) := by decide +kernel
theorem dX13_readDamp_40 : decode cX13_readDamp 40 = .ok (.aload_n 0, 1) := by decide +kernel
theorem dX13_readDamp_41 : decode cX13_readDamp 41 = .ok (.bipush 78, 2) := by decide +kernel
theorem dX13_readDamp_43 : decode cX13_readDamp 43 = .ok (.iload_n 1, 1) := by decide +kernel
theorem dX13_readDamp_44 : decode cX13_readDamp 44 = .ok (.iadd, 1) := by decide +kernel
theorem dX13_readDamp_45 : decode cX13_readDamp 45 = .ok (.aload_n 0, 1) := by decide +kernel
theorem dX13_readDamp_46 : decode cX13_readDamp 46 = .ok (.aload_n 0, 1) := by decide +kernel
theorem dX13_readDamp_47 : decode cX13_readDamp 47 = .ok (.getfield 101, 3) := by decide +kernel
theorem dX13_readDamp_50 : decode cX13_readDamp 50 = .ok (.bipush 72, 2) := by decide +kernel
theorem dX13_readDamp_52 : decode cX13_readDamp 52 = .ok (.iload_n 1, 1) := by decide +kernel
theorem dX13_readDamp_53 : decode cX13_readDamp 53 = .ok (.iadd, 1) := by decide +kernel
theorem dX13_readDamp_54 : decode cX13_readDamp 54 = .ok (.iaload, 1) := by decide +kernel
theorem dX13_readDamp_55 : decode cX13_readDamp 55 = .ok (.sipush 599, 3) := by decide +kernel
theorem dX13_readDamp_58 : decode cX13_readDamp 58 = .ok (.invokevirtual 172, 3) := by decide +kernel
theorem dX13_readDamp_61 : decode cX13_readDamp 61 = .ok (.invokevirtual 175, 3) := by decide +kernel
theorem dX13_readDamp_64 : decode cX13_readDamp 64 = .ok (.ifCond .ne 5, 3) := by decide +kernel
theorem dX13_readDamp_67 : decode cX13_readDamp 67 = .ok (.iconst 0, 1) := by decide +kernel
theorem dX13_readDamp_68 : decode cX13_readDamp 68 = .ok (.ireturn, 1) := by decide +kernel
theorem dX13_readDamp_69 : decode cX13_readDamp 69 = .ok (.aload_n 0, 1) := by decide +kernel
theorem dX13_readDamp_70 : decode cX13_readDamp 70 = .ok (.getfield 101, 3) := by decide +kernel
theorem dX13_readDamp_73 : decode cX13_readDamp 73 = .ok (.bipush 7, 2) := by decide +kernel
theorem dX13_readDamp_75 : decode cX13_readDamp 75 = .ok (.dup2, 1) := by decide +kernel
theorem dX13_readDamp_76 : decode cX13_readDamp 76 = .ok (.iaload, 1) := by decide +kernel
theorem dX13_readDamp_77 : decode cX13_readDamp 77 = .ok (.iconst 1, 1) := by decide +kernel
theorem dX13_readDamp_78 : decode cX13_readDamp 78 = .ok (.iadd, 1) := by decide +kernel
theorem dX13_readDamp_79 : decode cX13_readDamp 79 = .ok (.iastore, 1) := by decide +kernel
theorem dX13_readDamp_80 : decode cX13_readDamp 80 = .ok (.iconst 1, 1) := by decide +kernel
theorem dX13_readDamp_81 : decode cX13_readDamp 81 = .ok (.ireturn, 1) := by decide +kernel
theorem dX13_readGood_0 : decode cX13_readGood 0 = .ok (.aload_n 0, 1) := by decide +kernel
theorem dX13_readGood_1 : decode cX13_readGood 1 = .ok (.iconst 2, 1) := by decide +kernel
theorem dX13_readGood_2 : decode cX13_readGood 2 = .ok (.bipush 6, 2) := by decide +kernel
theorem dX13_readGood_4 : decode cX13_readGood 4 = .ok (.invokevirtual 166, 3) := by decide +kernel
theorem dX13_readGood_7 : decode cX13_readGood 7 = .ok (.ifCond .ne 5, 3) := by decide +kernel
theorem dX13_readGood_10 : decode cX13_readGood 10 = .ok (.iconst 0, 1) := by decide +kernel
theorem dX13_readGood_11 : decode cX13_readGood 11 = .ok (.ireturn, 1) := by decide +kernel
theorem dX13_readGood_12 : decode cX13_readGood 12 = .ok (.aload_n 0, 1) := by decide +kernel
theorem dX13_readGood_13 : decode cX13_readGood 13 = .ok (.getfield 101, 3) := by decide +kernel
theorem dX13_readGood_16 : decode cX13_readGood 16 = .ok (.iconst 2, 1) := by decide +kernel
theorem dX13_readGood_17 : decode cX13_readGood 17 = .ok (.iaload, 1) := by decide +kernel
theorem dX13_readGood_18 : decode cX13_readGood 18 = .ok (.istore_n 1, 1) := by decide +kernel
theorem dX13_readGood_19 : decode cX13_readGood 19 = .ok (.aload_n 0, 1) := by decide +kernel
theorem dX13_readGood_20 : decode cX13_readGood 20 = .ok (.bipush 12, 2) := by decide +kernel
theorem dX13_readGood_22 : decode cX13_readGood 22 = .ok (.iload_n 1, 1) := by decide +kernel
theorem dX13_readGood_23 : decode cX13_readGood 23 = .ok (.iadd, 1) := by decide +kernel
theorem dX13_readGood_24 : decode cX13_readGood 24 = .ok (.invokevirtual 169, 3) := by decide +kernel
theorem dX13_readGood_27 : decode cX13_readGood 27 = .ok (.ifCond .eq 62, 3) := by decide +kernel
theorem dX13_readGood_30 : decode cX13_readGood 30 = .ok (.aload_n 0, 1) := by decide +kernel
theorem dX13_readGood_31 : decode cX13_readGood 31 = .ok (.bipush 84, 2) := by decide +kernel
theorem dX13_readGood_33 : decode cX13_readGood 33 = .ok (.iload_n 1, 1) := by decide +kernel
theorem dX13_readGood_34 : decode cX13_readGood 34 = .ok (.iadd, 1) := by decide +kernel
theorem dX13_readGood_35 : decode cX13_readGood 35 = .ok (.aload_n 0, 1) := by decide +kernel
theorem dX13_readGood_36 : decode cX13_readGood 36 = .ok (.bipush 8, 2) := by decide +kernel
theorem dX13_readGood_38 : decode cX13_readGood 38 = .ok (.aload_n 0, 1) := by decide +kernel
theorem dX13_readGood_39 : decode cX13_readGood 39 = .ok (.getfield 101, 3) := by decide +kernel
theorem dX13_readGood_42 : decode cX13_readGood 42 = .ok (.iconst 1, 1) := by decide +kernel
theorem dX13_readGood_43 : decode cX13_readGood 43 = .ok (.iaload, 1) := by decide +kernel
theorem dX13_readGood_44 : decode cX13_readGood 44 = .ok (.invokevirtual 179, 3) := by decide +kernel
theorem dX13_readGood_47 : decode cX13_readGood 47 = .ok (.invokevirtual 175, 3) := by decide +kernel
theorem dX13_readGood_50 : decode cX13_readGood 50 = .ok (.ifCond .eq 39, 3) := by decide +kernel
theorem dX13_readGood_53 : decode cX13_readGood 53 = .ok (.aload_n 0, 1) := by decide +kernel
theorem dX13_readGood_54 : decode cX13_readGood 54 = .ok (.bipush 90, 2) := by decide +kernel
theorem dX13_readGood_56 : decode cX13_readGood 56 = .ok (.iload_n 1, 1) := by decide +kernel
theorem dX13_readGood_57 : decode cX13_readGood 57 = .ok (.iadd, 1) := by decide +kernel
theorem dX13_readGood_58 : decode cX13_readGood 58 = .ok (.aload_n 0, 1) := by decide +kernel
theorem dX13_readGood_59 : decode cX13_readGood 59 = .ok (.iconst 0, 1) := by decide +kernel
theorem dX13_readGood_60 : decode cX13_readGood 60 = .ok (.bipush 99, 2) := by decide +kernel
theorem dX13_readGood_62 : decode cX13_readGood 62 = .ok (.invokevirtual 172, 3) := by decide +kernel
theorem dX13_readGood_65 : decode cX13_readGood 65 = .ok (.invokevirtual 175, 3) := by decide +kernel
theorem dX13_readGood_68 : decode cX13_readGood 68 = .ok (.ifCond .eq 21, 3) := by decide +kernel
theorem dX13_readGood_71 : decode cX13_readGood 71 = .ok (.aload_n 0, 1) := by decide +kernel
theorem dX13_readGood_72 : decode cX13_readGood 72 = .ok (.bipush 96, 2) := by decide +kernel
theorem dX13_readGood_74 : decode cX13_readGood 74 = .ok (.iload_n 1, 1) := by decide +kernel
theorem dX13_readGood_75 : decode cX13_readGood 75 = .ok (.iadd, 1) := by decide +kernel
theorem dX13_readGood_76 : decode cX13_readGood 76 = .ok (.aload_n 0, 1) := by decide +kernel
theorem dX13_readGood_77 : decode cX13_readGood 77 = .ok (.iconst 0, 1) := by decide +kernel
theorem dX13_readGood_78 : decode cX13_readGood 78 = .ok (.bipush 99, 2) := by decide +kernel
theorem dX13_readGood_80 : decode cX13_readGood 80 = .ok (.invokevirtual 172, 3) := by decide +kernel
theorem dX13_readGood_83 : decode cX13_readGood 83 = .ok (.invokevirtual 175, 3) := by decide +kernel
theorem dX13_readGood_86 : decode cX13_readGood 86 = .ok (.ifCond .ne 5, 3) := by decide +kernel
theorem dX13_readGood_89 : decode cX13_readGood 89 = .ok (.iconst 0, 1) := by decide +kernel
theorem dX13_readGood_90 : decode cX13_readGood 90 = .ok (.ireturn, 1) := by decide +kernel
theorem dX13_readGood_91 : decode cX13_readGood 91 = .ok (.aload_n 0, 1) := by decide +kernel
theorem dX13_readGood_92 : decode cX13_readGood 92 = .ok (.getfield 101, 3) := by decide +kernel
theorem dX13_readGood_95 : decode cX13_readGood 95 = .ok (.iconst 2, 1) := by decide +kernel
theorem dX13_readGood_96 : decode cX13_readGood 96 = .ok (.dup2, 1) := by decide +kernel
theorem dX13_readGood_97 : decode cX13_readGood 97 = .ok (.iaload, 1) := by decide +kernel
theorem dX13_readGood_98 : decode cX13_readGood 98 = .ok (.iconst 1, 1) := by decide +kernel
theorem dX13_readGood_99 : decode cX13_readGood 99 = .ok (.iadd, 1) := by decide +kernel
theorem dX13_readGood_100 : decode cX13_readGood 100 = .ok (.iastore, 1) := by decide +kernel
theorem dX13_readGood_101 : decode cX13_readGood 101 = .ok (.iconst 1, 1) := by decide +kernel
theorem dX13_readGood_102 : decode cX13_readGood 102 = .ok (.ireturn, 1) := by decide +kernel
theorem dX13_isFresh_0 : decode cX13_isFresh 0 = .ok (.aload_n 0, 1) := by decide +kernel
theorem dX13_isFresh_1 : decode cX13_isFresh 1 = .ok (.getfield 182, 3) := by decide +kernel
theorem dX13_isFresh_4 : decode cX13_isFresh 4 = .ok (.iload_n 1, 1) := by decide +kernel
theorem dX13_isFresh_5 : decode cX13_isFresh 5 = .ok (.invokestatic 185, 3) := by decide +kernel
theorem dX13_isFresh_8 : decode cX13_isFresh 8 = .ok (.ifCond .eq 9, 3) := by decide +kernel
theorem dX13_isFresh_11 : decode cX13_isFresh 11 = .ok (.aload_n 0, 1) := by decide +kernel
theorem dX13_isFresh_12 : decode cX13_isFresh 12 = .ok (.iconst 3, 1) := by decide +kernel
theorem dX13_isFresh_13 : decode cX13_isFresh 13 = .ok (.invokevirtual 72, 3) := by decide +kernel
theorem dX13_isFresh_16 : decode cX13_isFresh 16 = .ok (.ireturn, 1) := by decide +kernel
theorem dX13_isFresh_17 : decode cX13_isFresh 17 = .ok (.aload_n 0, 1) := by decide +kernel
theorem dX13_isFresh_18 : decode cX13_isFresh 18 = .ok (.dup, 1) := by decide +kernel
theorem dX13_isFresh_19 : decode cX13_isFresh 19 = .ok (.getfield 182, 3) := by decide +kernel
theorem dX13_isFresh_22 : decode cX13_isFresh 22 = .ok (.iconst 1, 1) := by decide +kernel
theorem dX13_isFresh_23 : decode cX13_isFresh 23 = .ok (.iload_n 1, 1) := by decide +kernel
theorem dX13_isFresh_24 : decode cX13_isFresh 24 = .ok (.ishl, 1) := by decide +kernel
theorem dX13_isFresh_25 : decode cX13_isFresh 25 = .ok (.ior, 1) := by decide +kernel
theorem dX13_isFresh_26 : decode cX13_isFresh 26 = .ok (.putfield 182, 3) := by decide +kernel
theorem dX13_isFresh_29 : decode cX13_isFresh 29 = .ok (.aload_n 0, 1) := by decide +kernel
theorem dX13_isFresh_30 : decode cX13_isFresh 30 = .ok (.invokevirtual 82, 3) := by decide +kernel
theorem dX13_isFresh_33 : decode cX13_isFresh 33 = .ok (.iconst 1, 1) := by decide +kernel
theorem dX13_isFresh_34 : decode cX13_isFresh 34 = .ok (.ireturn, 1) := by decide +kernel
theorem dX13_readFlag_0 : decode cX13_readFlag 0 = .ok (.aload_n 0, 1) := by decide +kernel
theorem dX13_readFlag_1 : decode cX13_readFlag 1 = .ok (.iload_n 1, 1) := by decide +kernel
theorem dX13_readFlag_2 : decode cX13_readFlag 2 = .ok (.invokevirtual 188, 3) := by decide +kernel
theorem dX13_readFlag_5 : decode cX13_readFlag 5 = .ok (.ifCond .ne 5, 3) := by decide +kernel
theorem dX13_readFlag_8 : decode cX13_readFlag 8 = .ok (.iconst 0, 1) := by decide +kernel
theorem dX13_readFlag_9 : decode cX13_readFlag 9 = .ok (.ireturn, 1) := by decide +kernel
theorem dX13_readFlag_10 : decode cX13_readFlag 10 = .ok (.aload_n 0, 1) := by decide +kernel
theorem dX13_readFlag_11 : decode cX13_readFlag 11 = .ok (.getfield 101, 3) := by decide +kernel
theorem dX13_readFlag_14 : decode cX13_readFlag 14 = .ok (.iload_n 2, 1) := by decide +kernel
theorem dX13_readFlag_15 : decode cX13_readFlag 15 = .ok (.iconst 1, 1) := by decide +kernel
theorem dX13_readFlag_16 : decode cX13_readFlag 16 = .ok (.iastore, 1) := by decide +kernel
theorem dX13_readFlag_17 : decode cX13_readFlag 17 = .ok (.iconst 1, 1) := by decide +kernel
theorem dX13_readFlag_18 : decode cX13_readFlag 18 = .ok (.ireturn, 1) := by decide +kernel
theorem dX13_readLine_0 : decode cX13_readLine 0 = .ok (.aload_n 0, 1) := by decide +kernel
theorem dX13_readLine_1 : decode cX13_readLine 1 = .ok (.iconst 0, 1) := by decide +kernel
theorem dX13_readLine_2 : decode cX13_readLine 2 = .ok (.invokevirtual 191, 3) := by decide +kernel
theorem dX13_readLine_5 : decode cX13_readLine 5 = .ok (.ifCond .eq 8, 3) := by decide +kernel
theorem dX13_readLine_8 : decode cX13_readLine 8 = .ok (.aload_n 0, 1) := by decide +kernel
theorem dX13_readLine_9 : decode cX13_readLine 9 = .ok (.invokevirtual 194, 3) := by decide +kernel
theorem dX13_readLine_12 : decode cX13_readLine 12 = .ok (.ireturn, 1) := by decide +kernel
theorem dX13_readLine_13 : decode cX13_readLine 13 = .ok (.aload_n 0, 1) := by decide +kernel
theorem dX13_readLine_14 : decode cX13_readLine 14 = .ok (.iconst 1, 1) := by decide +kernel
theorem dX13_readLine_15 : decode cX13_readLine 15 = .ok (.invokevirtual 191, 3) := by decide +kernel
theorem dX13_readLine_18 : decode cX13_readLine 18 = .ok (.ifCond .eq 10, 3) := by decide +kernel
theorem dX13_readLine_21 : decode cX13_readLine 21 = .ok (.aload_n 0, 1) := by decide +kernel
theorem dX13_readLine_22 : decode cX13_readLine 22 = .ok (.bipush 32, 2) := by decide +kernel
theorem dX13_readLine_24 : decode cX13_readLine 24 = .ok (.invokevirtual 197, 3) := by decide +kernel
theorem dX13_readLine_27 : decode cX13_readLine 27 = .ok (.ireturn, 1) := by decide +kernel
theorem dX13_readLine_28 : decode cX13_readLine 28 = .ok (.aload_n 0, 1) := by decide +kernel
theorem dX13_readLine_29 : decode cX13_readLine 29 = .ok (.iconst 2, 1) := by decide +kernel
theorem dX13_readLine_30 : decode cX13_readLine 30 = .ok (.invokevirtual 191, 3) := by decide +kernel
theorem dX13_readLine_33 : decode cX13_readLine 33 = .ok (.ifCond .eq 10, 3) := by decide +kernel
theorem dX13_readLine_36 : decode cX13_readLine 36 = .ok (.aload_n 0, 1) := by decide +kernel
theorem dX13_readLine_37 : decode cX13_readLine 37 = .ok (.bipush 40, 2) := by decide +kernel
theorem dX13_readLine_39 : decode cX13_readLine 39 = .ok (.invokevirtual 197, 3) := by decide +kernel
theorem dX13_readLine_42 : decode cX13_readLine 42 = .ok (.ireturn, 1) := by decide +kernel
theorem dX13_readLine_43 : decode cX13_readLine 43 = .ok (.aload_n 0, 1) := by decide +kernel
theorem dX13_readLine_44 : decode cX13_readLine 44 = .ok (.iconst 3, 1) := by decide +kernel
theorem dX13_readLine_45 : decode cX13_readLine 45 = .ok (.invokevirtual 191, 3) := by decide +kernel
theorem dX13_readLine_48 : decode cX13_readLine 48 = .ok (.ifCond .eq 8, 3) := by decide +kernel
theorem dX13_readLine_51 : decode cX13_readLine 51 = .ok (.aload_n 0, 1) := by decide +kernel
theorem dX13_readLine_52 : decode cX13_readLine 52 = .ok (.invokevirtual 200, 3) := by decide +kernel
theorem dX13_readLine_55 : decode cX13_readLine 55 = .ok (.ireturn, 1) := by decide +kernel
theorem dX13_readLine_56 : decode cX13_readLine 56 = .ok (.aload_n 0, 1) := by decide +kernel
theorem dX13_readLine_57 : decode cX13_readLine 57 = .ok (.iconst 4, 1) := by decide +kernel
theorem dX13_readLine_58 : decode cX13_readLine 58 = .ok (.invokevirtual 191, 3) := by decide +kernel
theorem dX13_readLine_61 : decode cX13_readLine 61 = .ok (.ifCond .eq 8, 3) := by decide +kernel
theorem dX13_readLine_64 : decode cX13_readLine 64 = .ok (.aload_n 0, 1) := by decide +kernel
theorem dX13_readLine_65 : decode cX13_readLine 65 = .ok (.invokevirtual 203, 3) := by decide +kernel
theorem dX13_readLine_68 : decode cX13_readLine 68 = .ok (.ireturn, 1) := by decide +kernel
theorem dX13_readLine_69 : decode cX13_readLine 69 = .ok (.aload_n 0, 1) := by decide +kernel
theorem dX13_readLine_70 : decode cX13_readLine 70 = .ok (.iconst 5, 1) := by decide +kernel
theorem dX13_readLine_71 : decode cX13_readLine 71 = .ok (.invokevirtual 191, 3) := by decide +kernel
theorem dX13_readLine_74 : decode cX13_readLine 74 = .ok (.ifCond .eq 8, 3) := by decide +kernel
theorem dX13_readLine_77 : decode cX13_readLine 77 = .ok (.aload_n 0, 1) := by decide +kernel
theorem dX13_readLine_78 : decode cX13_readLine 78 = .ok (.invokevirtual 206, 3) := by decide +kernel
theorem dX13_readLine_81 : decode cX13_readLine 81 = .ok (.ireturn, 1) := by decide +kernel
theorem dX13_readLine_82 : decode cX13_readLine 82 = .ok (.aload_n 0, 1) := by decide +kernel
theorem dX13_readLine_83 : decode cX13_readLine 83 = .ok (.bipush 6, 2) := by decide +kernel
theorem dX13_readLine_85 : decode cX13_readLine 85 = .ok (.invokevirtual 191, 3) := by decide +kernel
theorem dX13_readLine_88 : decode cX13_readLine 88 = .ok (.ifCond .eq 32, 3) := by decide +kernel
theorem dX13_readLine_91 : decode cX13_readLine 91 = .ok (.aload_n 0, 1) := by decide +kernel
theorem dX13_readLine_92 : decode cX13_readLine 92 = .ok (.iconst 0, 1) := by decide +kernel
theorem dX13_readLine_93 : decode cX13_readLine 93 = .ok (.invokevirtual 188, 3) := by decide +kernel
theorem dX13_readLine_96 : decode cX13_readLine 96 = .ok (.ifCond .eq 22, 3) := by decide +kernel
theorem dX13_readLine_99 : decode cX13_readLine 99 = .ok (.aload_n 0, 1) := by decide +kernel
theorem dX13_readLine_100 : decode cX13_readLine 100 = .ok (.iconst 3, 1) := by decide +kernel
theorem dX13_readLine_101 : decode cX13_readLine 101 = .ok (.aload_n 0, 1) := by decide +kernel
theorem dX13_readLine_102 : decode cX13_readLine 102 = .ok (.iconst 1, 1) := by decide +kernel
theorem dX13_readLine_103 : decode cX13_readLine 103 = .ok (.bipush 9, 2) := by decide +kernel
theorem dX13_readLine_105 : decode cX13_readLine 105 = .ok (.invokevirtual 172, 3) := by decide +kernel
theorem dX13_readLine_108 : decode cX13_readLine 108 = .ok (.invokevirtual 175, 3) := by decide +kernel
theorem dX13_readLine_111 : decode cX13_readLine 111 = .ok (.ifCond .eq 7, 3) := by decide +kernel
theorem dX13_readLine_114 : decode cX13_readLine 114 = .ok (.iconst 1, 1) := by decide +kernel
theorem dX13_readLine_115 : decode cX13_readLine 115 = .ok (.goto 4, 3) := by decide +kernel
theorem dX13_readLine_118 : decode cX13_readLine 118 = .ok (.iconst 0, 1) := by decide +kernel
theorem dX13_readLine_119 : decode cX13_readLine 119 = .ok (.ireturn, 1) := by decide +kernel
theorem dX13_readLine_120 : decode cX13_readLine 120 = .ok (.aload_n 0, 1) := by decide +kernel
theorem dX13_readLine_121 : decode cX13_readLine 121 = .ok (.bipush 7, 2) := by decide +kernel
theorem dX13_readLine_123 : decode cX13_readLine 123 = .ok (.invokevirtual 191, 3) := by decide +kernel
theorem dX13_readLine_126 : decode cX13_readLine 126 = .ok (.ifCond .eq 32, 3) := by decide +kernel
theorem dX13_readLine_129 : decode cX13_readLine 129 = .ok (.aload_n 0, 1) := by decide +kernel
theorem dX13_readLine_130 : decode cX13_readLine 130 = .ok (.iconst 1, 1) := by decide +kernel
theorem dX13_readLine_131 : decode cX13_readLine 131 = .ok (.invokevirtual 188, 3) := by decide +kernel
theorem dX13_readLine_134 : decode cX13_readLine 134 = .ok (.ifCond .eq 22, 3) := by decide +kernel
theorem dX13_readLine_137 : decode cX13_readLine 137 = .ok (.aload_n 0, 1) := by decide +kernel
theorem dX13_readLine_138 : decode cX13_readLine 138 = .ok (.iconst 4, 1) := by decide +kernel
theorem dX13_readLine_139 : decode cX13_readLine 139 = .ok (.aload_n 0, 1) := by decide +kernel
theorem dX13_readLine_140 : decode cX13_readLine 140 = .ok (.iconst 0, 1) := by decide +kernel
theorem dX13_readLine_141 : decode cX13_readLine 141 = .ok (.bipush 99, 2) := by decide +kernel
theorem dX13_readLine_143 : decode cX13_readLine 143 = .ok (.invokevirtual 172, 3) := by decide +kernel
theorem dX13_readLine_146 : decode cX13_readLine 146 = .ok (.invokevirtual 175, 3) := by decide +kernel
theorem dX13_readLine_149 : decode cX13_readLine 149 = .ok (.ifCond .eq 7, 3) := by decide +kernel
theorem dX13_readLine_152 : decode cX13_readLine 152 = .ok (.iconst 1, 1) := by decide +kernel
theorem dX13_readLine_153 : decode cX13_readLine 153 = .ok (.goto 4, 3) := by decide +kernel
theorem dX13_readLine_156 : decode cX13_readLine 156 = .ok (.iconst 0, 1) := by decide +kernel
theorem dX13_readLine_157 : decode cX13_readLine 157 = .ok (.ireturn, 1) := by decide +kernel
theorem dX13_readLine_158 : decode cX13_readLine 158 = .ok (.aload_n 0, 1) := by decide +kernel
theorem dX13_readLine_159 : decode cX13_readLine 159 = .ok (.bipush 8, 2) := by decide +kernel
theorem dX13_readLine_161 : decode cX13_readLine 161 = .ok (.invokevirtual 191, 3) := by decide +kernel
theorem dX13_readLine_164 : decode cX13_readLine 164 = .ok (.ifCond .eq 10, 3) := by decide +kernel
theorem dX13_readLine_167 : decode cX13_readLine 167 = .ok (.aload_n 0, 1) := by decide +kernel
theorem dX13_readLine_168 : decode cX13_readLine 168 = .ok (.iconst 2, 1) := by decide +kernel
theorem dX13_readLine_169 : decode cX13_readLine 169 = .ok (.iconst 5, 1) := by decide +kernel
theorem dX13_readLine_170 : decode cX13_readLine 170 = .ok (.invokevirtual 209, 3) := by decide +kernel
theorem dX13_readLine_173 : decode cX13_readLine 173 = .ok (.ireturn, 1) := by decide +kernel
theorem dX13_readLine_174 : decode cX13_readLine 174 = .ok (.aload_n 0, 1) := by decide +kernel
theorem dX13_readLine_175 : decode cX13_readLine 175 = .ok (.bipush 9, 2) := by decide +kernel
theorem dX13_readLine_177 : decode cX13_readLine 177 = .ok (.invokevirtual 191, 3) := by decide +kernel
theorem dX13_readLine_180 : decode cX13_readLine 180 = .ok (.ifCond .eq 13, 3) := by decide +kernel
theorem dX13_readLine_183 : decode cX13_readLine 183 = .ok (.aload_n 0, 1) := by decide +kernel
theorem dX13_readLine_184 : decode cX13_readLine 184 = .ok (.iconst 3, 1) := by decide +kernel
theorem dX13_readLine_185 : decode cX13_readLine 185 = .ok (.bipush 6, 2) := by decide +kernel
theorem dX13_readLine_187 : decode cX13_readLine 187 = .ok (.invokevirtual 209, 3) := by decide +kernel
theorem dX13_readLine_190 : decode cX13_readLine 190 = .ok (.goto 8, 3) := by decide +kernel
theorem dX13_readLine_193 : decode cX13_readLine 193 = .ok (.aload_n 0, 1) := by decide +kernel
theorem dX13_readLine_194 : decode cX13_readLine 194 = .ok (.iconst 1, 1) := by decide +kernel
theorem dX13_readLine_195 : decode cX13_readLine 195 = .ok (.invokevirtual 72, 3) := by decide +kernel
theorem dX13_readLine_198 : decode cX13_readLine 198 = .ok (.ireturn, 1) := by decide +kernel
theorem dX13_parish_0 : decode cX13_parish 0 = .ok (.aload_n 0, 1) := by decide +kernel
theorem dX13_parish_1 : decode cX13_parish 1 = .ok (.sipush 900, 3) := by decide +kernel
theorem dX13_parish_4 : decode cX13_parish 4 = .ok (.invokevirtual 212, 3) := by decide +kernel
theorem dX13_parish_7 : decode cX13_parish 7 = .ok (.aload_n 0, 1) := by decide +kernel
theorem dX13_parish_8 : decode cX13_parish 8 = .ok (.invokevirtual 148, 3) := by decide +kernel
theorem dX13_parish_11 : decode cX13_parish 11 = .ok (.aload_n 0, 1) := by decide +kernel
theorem dX13_parish_12 : decode cX13_parish 12 = .ok (.iconst 0, 1) := by decide +kernel
theorem dX13_parish_13 : decode cX13_parish 13 = .ok (.putfield 182, 3) := by decide +kernel
theorem dX13_parish_16 : decode cX13_parish 16 = .ok (.iconst 0, 1) := by decide +kernel
theorem dX13_parish_17 : decode cX13_parish 17 = .ok (.istore_n 1, 1) := by decide +kernel
theorem dX13_parish_18 : decode cX13_parish 18 = .ok (.aload_n 0, 1) := by decide +kernel
theorem dX13_parish_19 : decode cX13_parish 19 = .ok (.getfield 30, 3) := by decide +kernel
theorem dX13_parish_22 : decode cX13_parish 22 = .ok (.ifCond .eq 30, 3) := by decide +kernel
theorem dX13_parish_25 : decode cX13_parish 25 = .ok (.aload_n 0, 1) := by decide +kernel
theorem dX13_parish_26 : decode cX13_parish 26 = .ok (.invokevirtual 215, 3) := by decide +kernel
theorem dX13_parish_29 : decode cX13_parish 29 = .ok (.ifCond .eq 10, 3) := by decide +kernel
theorem dX13_parish_32 : decode cX13_parish 32 = .ok (.aload_n 0, 1) := by decide +kernel
theorem dX13_parish_33 : decode cX13_parish 33 = .ok (.invokevirtual 218, 3) := by decide +kernel
theorem dX13_parish_36 : decode cX13_parish 36 = .ok (.ifCond .ne 10, 3) := by decide +kernel
theorem dX13_parish_39 : decode cX13_parish 39 = .ok (.iconst (-1), 1) := by decide +kernel
theorem dX13_parish_40 : decode cX13_parish 40 = .ok (.aload_n 0, 1) := by decide +kernel
theorem dX13_parish_41 : decode cX13_parish 41 = .ok (.getfield 69, 3) := by decide +kernel
theorem dX13_parish_44 : decode cX13_parish 44 = .ok (.isub, 1) := by decide +kernel
theorem dX13_parish_45 : decode cX13_parish 45 = .ok (.ireturn, 1) := by decide +kernel
theorem dX13_parish_46 : decode cX13_parish 46 = .ok (.iinc 1 1, 3) := by decide +kernel
theorem dX13_parish_49 : decode cX13_parish 49 = .ok (.goto (-31), 3) := by decide +kernel
theorem dX13_parish_52 : decode cX13_parish 52 = .ok (.iconst 0, 1) := by decide +kernel
theorem dX13_parish_53 : decode cX13_parish 53 = .ok (.istore_n 2, 1) := by decide +kernel
theorem dX13_parish_54 : decode cX13_parish 54 = .ok (.iload_n 2, 1) := by decide +kernel
theorem dX13_parish_55 : decode cX13_parish 55 = .ok (.bipush 102, 2) := by decide +kernel
theorem dX13_parish_57 : decode cX13_parish 57 = .ok (.if_icmp .ge 21, 3) := by decide +kernel
theorem dX13_parish_60 : decode cX13_parish 60 = .ok (.aload_n 0, 1) := by decide +kernel
theorem dX13_parish_61 : decode cX13_parish 61 = .ok (.getfield 98, 3) := by decide +kernel
theorem dX13_parish_64 : decode cX13_parish 64 = .ok (.iload_n 2, 1) := by decide +kernel
theorem dX13_parish_65 : decode cX13_parish 65 = .ok (.aload_n 0, 1) := by decide +kernel
theorem dX13_parish_66 : decode cX13_parish 66 = .ok (.getfield 101, 3) := by decide +kernel
theorem dX13_parish_69 : decode cX13_parish 69 = .ok (.iload_n 2, 1) := by decide +kernel
theorem dX13_parish_70 : decode cX13_parish 70 = .ok (.iaload, 1) := by decide +kernel
theorem dX13_parish_71 : decode cX13_parish 71 = .ok (.iastore, 1) := by decide +kernel
theorem dX13_parish_72 : decode cX13_parish 72 = .ok (.iinc 2 1, 3) := by decide +kernel
theorem dX13_parish_75 : decode cX13_parish 75 = .ok (.goto (-21), 3) := by decide +kernel
theorem dX13_parish_78 : decode cX13_parish 78 = .ok (.iconst 0, 1) := by decide +kernel
theorem dX13_parish_79 : decode cX13_parish 79 = .ok (.istore_n 2, 1) := by decide +kernel
theorem dX13_parish_80 : decode cX13_parish 80 = .ok (.iload_n 2, 1) := by decide +kernel
theorem dX13_parish_81 : decode cX13_parish 81 = .ok (.bipush 18, 2) := by decide +kernel
theorem dX13_parish_83 : decode cX13_parish 83 = .ok (.if_icmp .ge 21, 3) := by decide +kernel
theorem dX13_parish_86 : decode cX13_parish 86 = .ok (.aload_n 0, 1) := by decide +kernel
theorem dX13_parish_87 : decode cX13_parish 87 = .ok (.getfield 113, 3) := by decide +kernel
theorem dX13_parish_90 : decode cX13_parish 90 = .ok (.iload_n 2, 1) := by decide +kernel
theorem dX13_parish_91 : decode cX13_parish 91 = .ok (.aload_n 0, 1) := by decide +kernel
theorem dX13_parish_92 : decode cX13_parish 92 = .ok (.getfield 117, 3) := by decide +kernel
theorem dX13_parish_95 : decode cX13_parish 95 = .ok (.iload_n 2, 1) := by decide +kernel
theorem dX13_parish_96 : decode cX13_parish 96 = .ok (.laload, 1) := by decide +kernel
theorem dX13_parish_97 : decode cX13_parish 97 = .ok (.lastore, 1) := by decide +kernel
theorem dX13_parish_98 : decode cX13_parish 98 = .ok (.iinc 2 1, 3) := by decide +kernel
theorem dX13_parish_101 : decode cX13_parish 101 = .ok (.goto (-21), 3) := by decide +kernel
theorem dX13_parish_104 : decode cX13_parish 104 = .ok (.aload_n 0, 1) := by decide +kernel
theorem dX13_parish_105 : decode cX13_parish 105 = .ok (.invokevirtual 151, 3) := by decide +kernel
theorem dX13_parish_108 : decode cX13_parish 108 = .ok (.aload_n 0, 1) := by decide +kernel
theorem dX13_parish_109 : decode cX13_parish 109 = .ok (.iconst 0, 1) := by decide +kernel
theorem dX13_parish_110 : decode cX13_parish 110 = .ok (.putfield 221, 3) := by decide +kernel
theorem dX13_parish_113 : decode cX13_parish 113 = .ok (.iload_n 1, 1) := by decide +kernel
theorem dX13_parish_114 : decode cX13_parish 114 = .ok (.ireturn, 1) := by decide +kernel
theorem dX13_fault_0 : decode cX13_fault 0 = .ok (.aload_n 0, 1) := by decide +kernel
theorem dX13_fault_1 : decode cX13_fault 1 = .ok (.iconst 0, 1) := by decide +kernel
theorem dX13_fault_2 : decode cX13_fault 2 = .ok (.putfield 1, 3) := by decide +kernel
theorem dX13_fault_5 : decode cX13_fault 5 = .ok (.aload_n 0, 1) := by decide +kernel
theorem dX13_fault_6 : decode cX13_fault 6 = .ok (.getfield 66, 3) := by decide +kernel
theorem dX13_fault_9 : decode cX13_fault 9 = .ok (.ireturn, 1) := by decide +kernel
theorem dX13_isPerson_0 : decode cX13_isPerson 0 = .ok (.iload_n 1, 1) := by decide +kernel
theorem dX13_isPerson_1 : decode cX13_isPerson 1 = .ok (.iconst 0, 1) := by decide +kernel
theorem dX13_isPerson_2 : decode cX13_isPerson 2 = .ok (.aload_n 0, 1) := by decide +kernel
theorem dX13_isPerson_3 : decode cX13_isPerson 3 = .ok (.getfield 98, 3) := by decide +kernel
theorem dX13_isPerson_6 : decode cX13_isPerson 6 = .ok (.iconst 0, 1) := by decide +kernel
theorem dX13_isPerson_7 : decode cX13_isPerson 7 = .ok (.iaload, 1) := by decide +kernel
theorem dX13_isPerson_8 : decode cX13_isPerson 8 = .ok (.iconst 1, 1) := by decide +kernel
theorem dX13_isPerson_9 : decode cX13_isPerson 9 = .ok (.isub, 1) := by decide +kernel
theorem dX13_isPerson_10 : decode cX13_isPerson 10 = .ok (.invokestatic 75, 3) := by decide +kernel
theorem dX13_isPerson_13 : decode cX13_isPerson 13 = .ok (.ireturn, 1) := by decide +kernel
theorem dX13_isGlass_0 : decode cX13_isGlass 0 = .ok (.iload_n 1, 1) := by decide +kernel
theorem dX13_isGlass_1 : decode cX13_isGlass 1 = .ok (.iconst 0, 1) := by decide +kernel
theorem dX13_isGlass_2 : decode cX13_isGlass 2 = .ok (.aload_n 0, 1) := by decide +kernel
theorem dX13_isGlass_3 : decode cX13_isGlass 3 = .ok (.getfield 98, 3) := by decide +kernel
theorem dX13_isGlass_6 : decode cX13_isGlass 6 = .ok (.iconst 1, 1) := by decide +kernel
theorem dX13_isGlass_7 : decode cX13_isGlass 7 = .ok (.iaload, 1) := by decide +kernel
theorem dX13_isGlass_8 : decode cX13_isGlass 8 = .ok (.iconst 1, 1) := by decide +kernel
theorem dX13_isGlass_9 : decode cX13_isGlass 9 = .ok (.isub, 1) := by decide +kernel
theorem dX13_isGlass_10 : decode cX13_isGlass 10 = .ok (.invokestatic 75, 3) := by decide +kernel
theorem dX13_isGlass_13 : decode cX13_isGlass 13 = .ok (.ireturn, 1) := by decide +kernel
theorem dX13_isLapsed_0 : decode cX13_isLapsed 0 = .ok (.aload_n 0, 1) := by decide +kernel
theorem dX13_isLapsed_1 : decode cX13_isLapsed 1 = .ok (.getfield 98, 3) := by decide +kernel
theorem dX13_isLapsed_4 : decode cX13_isLapsed 4 = .ok (.bipush 104, 2) := by decide +kernel
theorem dX13_isLapsed_6 : decode cX13_isLapsed 6 = .ok (.iaload, 1) := by decide +kernel
theorem dX13_isLapsed_7 : decode cX13_isLapsed 7 = .ok (.iload_n 1, 1) := by decide +kernel
theorem dX13_isLapsed_8 : decode cX13_isLapsed 8 = .ok (.invokestatic 185, 3) := by decide +kernel
theorem dX13_isLapsed_11 : decode cX13_isLapsed 11 = .ok (.ireturn, 1) := by decide +kernel
theorem dX13_isDamp_0 : decode cX13_isDamp 0 = .ok (.iconst 0, 1) := by decide +kernel
theorem dX13_isDamp_1 : decode cX13_isDamp 1 = .ok (.istore_n 2, 1) := by decide +kernel
theorem dX13_isDamp_2 : decode cX13_isDamp 2 = .ok (.iload_n 2, 1) := by decide +kernel
theorem dX13_isDamp_3 : decode cX13_isDamp 3 = .ok (.aload_n 0, 1) := by decide +kernel
theorem dX13_isDamp_4 : decode cX13_isDamp 4 = .ok (.getfield 98, 3) := by decide +kernel
theorem dX13_isDamp_7 : decode cX13_isDamp 7 = .ok (.bipush 7, 2) := by decide +kernel
theorem dX13_isDamp_9 : decode cX13_isDamp 9 = .ok (.iaload, 1) := by decide +kernel
theorem dX13_isDamp_10 : decode cX13_isDamp 10 = .ok (.if_icmp .ge 36, 3) := by decide +kernel
theorem dX13_isDamp_13 : decode cX13_isDamp 13 = .ok (.iload_n 1, 1) := by decide +kernel
theorem dX13_isDamp_14 : decode cX13_isDamp 14 = .ok (.aload_n 0, 1) := by decide +kernel
theorem dX13_isDamp_15 : decode cX13_isDamp 15 = .ok (.getfield 98, 3) := by decide +kernel
theorem dX13_isDamp_18 : decode cX13_isDamp 18 = .ok (.bipush 72, 2) := by decide +kernel
theorem dX13_isDamp_20 : decode cX13_isDamp 20 = .ok (.iload_n 2, 1) := by decide +kernel
theorem dX13_isDamp_21 : decode cX13_isDamp 21 = .ok (.iadd, 1) := by decide +kernel
theorem dX13_isDamp_22 : decode cX13_isDamp 22 = .ok (.iaload, 1) := by decide +kernel
theorem dX13_isDamp_23 : decode cX13_isDamp 23 = .ok (.aload_n 0, 1) := by decide +kernel
theorem dX13_isDamp_24 : decode cX13_isDamp 24 = .ok (.getfield 98, 3) := by decide +kernel
theorem dX13_isDamp_27 : decode cX13_isDamp 27 = .ok (.bipush 78, 2) := by decide +kernel
theorem dX13_isDamp_29 : decode cX13_isDamp 29 = .ok (.iload_n 2, 1) := by decide +kernel
theorem dX13_isDamp_30 : decode cX13_isDamp 30 = .ok (.iadd, 1) := by decide +kernel
theorem dX13_isDamp_31 : decode cX13_isDamp 31 = .ok (.iaload, 1) := by decide +kernel
theorem dX13_isDamp_32 : decode cX13_isDamp 32 = .ok (.invokestatic 75, 3) := by decide +kernel
theorem dX13_isDamp_35 : decode cX13_isDamp 35 = .ok (.ifCond .eq 5, 3) := by decide +kernel
theorem dX13_isDamp_38 : decode cX13_isDamp 38 = .ok (.iconst 1, 1) := by decide +kernel
theorem dX13_isDamp_39 : decode cX13_isDamp 39 = .ok (.ireturn, 1) := by decide +kernel
theorem dX13_isDamp_40 : decode cX13_isDamp 40 = .ok (.iinc 2 1, 3) := by decide +kernel
theorem dX13_isDamp_43 : decode cX13_isDamp 43 = .ok (.goto (-41), 3) := by decide +kernel
theorem dX13_isDamp_46 : decode cX13_isDamp 46 = .ok (.iconst 0, 1) := by decide +kernel
theorem dX13_isDamp_47 : decode cX13_isDamp 47 = .ok (.ireturn, 1) := by decide +kernel
theorem dX13_isUp_0 : decode cX13_isUp 0 = .ok (.iload_n 2, 1) := by decide +kernel
theorem dX13_isUp_1 : decode cX13_isUp 1 = .ok (.bipush 24, 2) := by decide +kernel
theorem dX13_isUp_3 : decode cX13_isUp 3 = .ok (.irem, 1) := by decide +kernel
theorem dX13_isUp_4 : decode cX13_isUp 4 = .ok (.istore_n 3, 1) := by decide +kernel
theorem dX13_isUp_5 : decode cX13_isUp 5 = .ok (.aload_n 0, 1) := by decide +kernel
theorem dX13_isUp_6 : decode cX13_isUp 6 = .ok (.getfield 98, 3) := by decide +kernel
theorem dX13_isUp_9 : decode cX13_isUp 9 = .ok (.bipush 8, 2) := by decide +kernel
theorem dX13_isUp_11 : decode cX13_isUp 11 = .ok (.iload_n 1, 1) := by decide +kernel
theorem dX13_isUp_12 : decode cX13_isUp 12 = .ok (.iadd, 1) := by decide +kernel
theorem dX13_isUp_13 : decode cX13_isUp 13 = .ok (.iaload, 1) := by decide +kernel
theorem dX13_isUp_14 : decode cX13_isUp 14 = .ok (.istore 4, 2) := by decide +kernel
theorem dX13_isUp_16 : decode cX13_isUp 16 = .ok (.aload_n 0, 1) := by decide +kernel
theorem dX13_isUp_17 : decode cX13_isUp 17 = .ok (.getfield 98, 3) := by decide +kernel
theorem dX13_isUp_20 : decode cX13_isUp 20 = .ok (.bipush 16, 2) := by decide +kernel
theorem dX13_isUp_22 : decode cX13_isUp 22 = .ok (.iload_n 1, 1) := by decide +kernel
theorem dX13_isUp_23 : decode cX13_isUp 23 = .ok (.iadd, 1) := by decide +kernel
theorem dX13_isUp_24 : decode cX13_isUp 24 = .ok (.iaload, 1) := by decide +kernel
theorem dX13_isUp_25 : decode cX13_isUp 25 = .ok (.istore 5, 2) := by decide +kernel
theorem dX13_isUp_27 : decode cX13_isUp 27 = .ok (.iload 4, 2) := by decide +kernel
theorem dX13_isUp_29 : decode cX13_isUp 29 = .ok (.iload 5, 2) := by decide +kernel
theorem dX13_isUp_31 : decode cX13_isUp 31 = .ok (.if_icmp .eq 37, 3) := by decide +kernel
theorem dX13_isUp_34 : decode cX13_isUp 34 = .ok (.iload 4, 2) := by decide +kernel
theorem dX13_isUp_36 : decode cX13_isUp 36 = .ok (.iload 5, 2) := by decide +kernel
theorem dX13_isUp_38 : decode cX13_isUp 38 = .ok (.if_icmp .ge 18, 3) := by decide +kernel
theorem dX13_isUp_41 : decode cX13_isUp 41 = .ok (.iload_n 3, 1) := by decide +kernel
theorem dX13_isUp_42 : decode cX13_isUp 42 = .ok (.iload 4, 2) := by decide +kernel
theorem dX13_isUp_44 : decode cX13_isUp 44 = .ok (.if_icmp .lt 28, 3) := by decide +kernel
theorem dX13_isUp_47 : decode cX13_isUp 47 = .ok (.iload_n 3, 1) := by decide +kernel
theorem dX13_isUp_48 : decode cX13_isUp 48 = .ok (.iload 5, 2) := by decide +kernel
theorem dX13_isUp_50 : decode cX13_isUp 50 = .ok (.if_icmp .ge 22, 3) := by decide +kernel
theorem dX13_isUp_53 : decode cX13_isUp 53 = .ok (.goto 15, 3) := by decide +kernel
theorem dX13_isUp_56 : decode cX13_isUp 56 = .ok (.iload_n 3, 1) := by decide +kernel
theorem dX13_isUp_57 : decode cX13_isUp 57 = .ok (.iload 4, 2) := by decide +kernel
theorem dX13_isUp_59 : decode cX13_isUp 59 = .ok (.if_icmp .ge 9, 3) := by decide +kernel
theorem dX13_isUp_62 : decode cX13_isUp 62 = .ok (.iload_n 3, 1) := by decide +kernel
theorem dX13_isUp_63 : decode cX13_isUp 63 = .ok (.iload 5, 2) := by decide +kernel
theorem dX13_isUp_65 : decode cX13_isUp 65 = .ok (.if_icmp .ge 7, 3) := by decide +kernel
theorem dX13_isUp_68 : decode cX13_isUp 68 = .ok (.iconst 1, 1) := by decide +kernel
theorem dX13_isUp_69 : decode cX13_isUp 69 = .ok (.goto 4, 3) := by decide +kernel
theorem dX13_isUp_72 : decode cX13_isUp 72 = .ok (.iconst 0, 1) := by decide +kernel
theorem dX13_isUp_73 : decode cX13_isUp 73 = .ok (.ireturn, 1) := by decide +kernel
theorem dX13_isAwake_0 : decode cX13_isAwake 0 = .ok (.aload_n 0, 1) := by decide +kernel
theorem dX13_isAwake_1 : decode cX13_isAwake 1 = .ok (.iload_n 1, 1) := by decide +kernel
theorem dX13_isAwake_2 : decode cX13_isAwake 2 = .ok (.iload_n 2, 1) := by decide +kernel
theorem dX13_isAwake_3 : decode cX13_isAwake 3 = .ok (.invokevirtual 224, 3) := by decide +kernel
theorem dX13_isAwake_6 : decode cX13_isAwake 6 = .ok (.ifCond .ne 28, 3) := by decide +kernel
theorem dX13_isAwake_9 : decode cX13_isAwake 9 = .ok (.iload_n 2, 1) := by decide +kernel
theorem dX13_isAwake_10 : decode cX13_isAwake 10 = .ok (.aload_n 0, 1) := by decide +kernel
theorem dX13_isAwake_11 : decode cX13_isAwake 11 = .ok (.getfield 98, 3) := by decide +kernel
theorem dX13_isAwake_14 : decode cX13_isAwake 14 = .ok (.bipush 102, 2) := by decide +kernel
theorem dX13_isAwake_16 : decode cX13_isAwake 16 = .ok (.iaload, 1) := by decide +kernel
theorem dX13_isAwake_17 : decode cX13_isAwake 17 = .ok (.if_icmp .ne 21, 3) := by decide +kernel
theorem dX13_isAwake_20 : decode cX13_isAwake 20 = .ok (.aload_n 0, 1) := by decide +kernel
theorem dX13_isAwake_21 : decode cX13_isAwake 21 = .ok (.getfield 98, 3) := by decide +kernel
theorem dX13_isAwake_24 : decode cX13_isAwake 24 = .ok (.bipush 103, 2) := by decide +kernel
theorem dX13_isAwake_26 : decode cX13_isAwake 26 = .ok (.iaload, 1) := by decide +kernel
theorem dX13_isAwake_27 : decode cX13_isAwake 27 = .ok (.iload_n 1, 1) := by decide +kernel
theorem dX13_isAwake_28 : decode cX13_isAwake 28 = .ok (.invokestatic 185, 3) := by decide +kernel
theorem dX13_isAwake_31 : decode cX13_isAwake 31 = .ok (.ifCond .eq 7, 3) := by decide +kernel
theorem dX13_isAwake_34 : decode cX13_isAwake 34 = .ok (.iconst 1, 1) := by decide +kernel
theorem dX13_isAwake_35 : decode cX13_isAwake 35 = .ok (.goto 4, 3) := by decide +kernel
theorem dX13_isAwake_38 : decode cX13_isAwake 38 = .ok (.iconst 0, 1) := by decide +kernel
theorem dX13_isAwake_39 : decode cX13_isAwake 39 = .ok (.ireturn, 1) := by decide +kernel
theorem dX13_fonder_0 : decode cX13_fonder 0 = .ok (.bipush 99, 2) := by decide +kernel
theorem dX13_fonder_2 : decode cX13_fonder 2 = .ok (.iload_n 2, 1) := by decide +kernel
theorem dX13_fonder_3 : decode cX13_fonder 3 = .ok (.aload_n 0, 1) := by decide +kernel
theorem dX13_fonder_4 : decode cX13_fonder 4 = .ok (.getfield 98, 3) := by decide +kernel
theorem dX13_fonder_7 : decode cX13_fonder 7 = .ok (.bipush 32, 2) := by decide +kernel
theorem dX13_fonder_9 : decode cX13_fonder 9 = .ok (.iload_n 1, 1) := by decide +kernel
theorem dX13_fonder_10 : decode cX13_fonder 10 = .ok (.iadd, 1) := by decide +kernel
theorem dX13_fonder_11 : decode cX13_fonder 11 = .ok (.iaload, 1) := by decide +kernel
theorem dX13_fonder_12 : decode cX13_fonder 12 = .ok (.iadd, 1) := by decide +kernel
theorem dX13_fonder_13 : decode cX13_fonder 13 = .ok (.invokestatic 227, 3) := by decide +kernel
theorem dX13_fonder_16 : decode cX13_fonder 16 = .ok (.aload_n 0, 1) := by decide +kernel
theorem dX13_fonder_17 : decode cX13_fonder 17 = .ok (.getfield 98, 3) := by decide +kernel
theorem dX13_fonder_20 : decode cX13_fonder 20 = .ok (.bipush 40, 2) := by decide +kernel
theorem dX13_fonder_22 : decode cX13_fonder 22 = .ok (.iload_n 1, 1) := by decide +kernel
theorem dX13_fonder_23 : decode cX13_fonder 23 = .ok (.iadd, 1) := by decide +kernel
theorem dX13_fonder_24 : decode cX13_fonder 24 = .ok (.iaload, 1) := by decide +kernel
theorem dX13_fonder_25 : decode cX13_fonder 25 = .ok (.isub, 1) := by decide +kernel
theorem dX13_fonder_26 : decode cX13_fonder 26 = .ok (.istore_n 3, 1) := by decide +kernel
theorem dX13_fonder_27 : decode cX13_fonder 27 = .ok (.iload_n 3, 1) := by decide +kernel
theorem dX13_fonder_28 : decode cX13_fonder 28 = .ok (.ifCond .ge 7, 3) := by decide +kernel
theorem dX13_fonder_31 : decode cX13_fonder 31 = .ok (.iconst 0, 1) := by decide +kernel
theorem dX13_fonder_32 : decode cX13_fonder 32 = .ok (.goto 4, 3) := by decide +kernel
theorem dX13_fonder_35 : decode cX13_fonder 35 = .ok (.iload_n 3, 1) := by decide +kernel
theorem dX13_fonder_36 : decode cX13_fonder 36 = .ok (.ireturn, 1) := by decide +kernel
theorem dX13_fondAt_0 : decode cX13_fondAt 0 = .ok (.aload_n 0, 1) := by decide +kernel
theorem dX13_fondAt_1 : decode cX13_fondAt 1 = .ok (.getfield 98, 3) := by decide +kernel
theorem dX13_fondAt_4 : decode cX13_fondAt 4 = .ok (.bipush 105, 2) := by decide +kernel
theorem dX13_fondAt_6 : decode cX13_fondAt 6 = .ok (.iload_n 1, 1) := by decide +kernel
theorem dX13_fondAt_7 : decode cX13_fondAt 7 = .ok (.iadd, 1) := by decide +kernel
theorem dX13_fondAt_8 : decode cX13_fondAt 8 = .ok (.iaload, 1) := by decide +kernel
theorem dX13_fondAt_9 : decode cX13_fondAt 9 = .ok (.istore_n 3, 1) := by decide +kernel
theorem dX13_fondAt_10 : decode cX13_fondAt 10 = .ok (.aload_n 0, 1) := by decide +kernel
theorem dX13_fondAt_11 : decode cX13_fondAt 11 = .ok (.getfield 98, 3) := by decide +kernel
theorem dX13_fondAt_14 : decode cX13_fondAt 14 = .ok (.bipush 102, 2) := by decide +kernel
theorem dX13_fondAt_16 : decode cX13_fondAt 16 = .ok (.iaload, 1) := by decide +kernel
theorem dX13_fondAt_17 : decode cX13_fondAt 17 = .ok (.istore 4, 2) := by decide +kernel
theorem dX13_fondAt_19 : decode cX13_fondAt 19 = .ok (.iload 4, 2) := by decide +kernel
theorem dX13_fondAt_21 : decode cX13_fondAt 21 = .ok (.iload_n 2, 1) := by decide +kernel
theorem dX13_fondAt_22 : decode cX13_fondAt 22 = .ok (.if_icmp .ge 26, 3) := by decide +kernel
theorem dX13_fondAt_25 : decode cX13_fondAt 25 = .ok (.iload 4, 2) := by decide +kernel
theorem dX13_fondAt_27 : decode cX13_fondAt 27 = .ok (.bipush 24, 2) := by decide +kernel
theorem dX13_fondAt_29 : decode cX13_fondAt 29 = .ok (.irem, 1) := by decide +kernel
theorem dX13_fondAt_30 : decode cX13_fondAt 30 = .ok (.bipush 23, 2) := by decide +kernel
theorem dX13_fondAt_32 : decode cX13_fondAt 32 = .ok (.if_icmp .ne 10, 3) := by decide +kernel
theorem dX13_fondAt_35 : decode cX13_fondAt 35 = .ok (.aload_n 0, 1) := by decide +kernel
theorem dX13_fondAt_36 : decode cX13_fondAt 36 = .ok (.iload_n 1, 1) := by decide +kernel
theorem dX13_fondAt_37 : decode cX13_fondAt 37 = .ok (.iload_n 3, 1) := by decide +kernel
theorem dX13_fondAt_38 : decode cX13_fondAt 38 = .ok (.invokevirtual 231, 3) := by decide +kernel
theorem dX13_fondAt_41 : decode cX13_fondAt 41 = .ok (.istore_n 3, 1) := by decide +kernel
theorem dX13_fondAt_42 : decode cX13_fondAt 42 = .ok (.iinc 4 1, 3) := by decide +kernel
theorem dX13_fondAt_45 : decode cX13_fondAt 45 = .ok (.goto (-26), 3) := by decide +kernel
theorem dX13_fondAt_48 : decode cX13_fondAt 48 = .ok (.iload_n 3, 1) := by decide +kernel
theorem dX13_fondAt_49 : decode cX13_fondAt 49 = .ok (.ireturn, 1) := by decide +kernel
theorem dX13_isWilling_0 : decode cX13_isWilling 0 = .ok (.aload_n 0, 1) := by decide +kernel
theorem dX13_isWilling_1 : decode cX13_isWilling 1 = .ok (.iload_n 1, 1) := by decide +kernel
theorem dX13_isWilling_2 : decode cX13_isWilling 2 = .ok (.iload_n 2, 1) := by decide +kernel
theorem dX13_isWilling_3 : decode cX13_isWilling 3 = .ok (.invokevirtual 234, 3) := by decide +kernel
theorem dX13_isWilling_6 : decode cX13_isWilling 6 = .ok (.ifCond .eq 22, 3) := by decide +kernel
theorem dX13_isWilling_9 : decode cX13_isWilling 9 = .ok (.aload_n 0, 1) := by decide +kernel
theorem dX13_isWilling_10 : decode cX13_isWilling 10 = .ok (.iload_n 1, 1) := by decide +kernel
theorem dX13_isWilling_11 : decode cX13_isWilling 11 = .ok (.iload_n 2, 1) := by decide +kernel
theorem dX13_isWilling_12 : decode cX13_isWilling 12 = .ok (.invokevirtual 237, 3) := by decide +kernel
theorem dX13_isWilling_15 : decode cX13_isWilling 15 = .ok (.aload_n 0, 1) := by decide +kernel
theorem dX13_isWilling_16 : decode cX13_isWilling 16 = .ok (.getfield 98, 3) := by decide +kernel
theorem dX13_isWilling_19 : decode cX13_isWilling 19 = .ok (.iconst 4, 1) := by decide +kernel
theorem dX13_isWilling_20 : decode cX13_isWilling 20 = .ok (.iaload, 1) := by decide +kernel
theorem dX13_isWilling_21 : decode cX13_isWilling 21 = .ok (.if_icmp .lt 7, 3) := by decide +kernel
theorem dX13_isWilling_24 : decode cX13_isWilling 24 = .ok (.iconst 1, 1) := by decide +kernel
theorem dX13_isWilling_25 : decode cX13_isWilling 25 = .ok (.goto 4, 3) := by decide +kernel
theorem dX13_isWilling_28 : decode cX13_isWilling 28 = .ok (.iconst 0, 1) := by decide +kernel
theorem dX13_isWilling_29 : decode cX13_isWilling 29 = .ok (.ireturn, 1) := by decide +kernel
theorem dX13_half_0 : decode cX13_half 0 = .ok (.iload_n 0, 1) := by decide +kernel
theorem dX13_half_1 : decode cX13_half 1 = .ok (.iconst 2, 1) := by decide +kernel
theorem dX13_half_2 : decode cX13_half 2 = .ok (.if_icmp .ge 7, 3) := by decide +kernel
theorem dX13_half_5 : decode cX13_half 5 = .ok (.iconst 1, 1) := by decide +kernel
theorem dX13_half_6 : decode cX13_half 6 = .ok (.goto 6, 3) := by decide +kernel
theorem dX13_half_9 : decode cX13_half 9 = .ok (.iload_n 0, 1) := by decide +kernel
theorem dX13_half_10 : decode cX13_half 10 = .ok (.iconst 2, 1) := by decide +kernel
theorem dX13_half_11 : decode cX13_half 11 = .ok (.idiv, 1) := by decide +kernel
theorem dX13_half_12 : decode cX13_half 12 = .ok (.ireturn, 1) := by decide +kernel
theorem dX13_runs_0 : decode cX13_runs 0 = .ok (.aload_n 0, 1) := by decide +kernel
theorem dX13_runs_1 : decode cX13_runs 1 = .ok (.getfield 98, 3) := by decide +kernel
theorem dX13_runs_4 : decode cX13_runs 4 = .ok (.sipush 129, 3) := by decide +kernel
theorem dX13_runs_7 : decode cX13_runs 7 = .ok (.iload_n 1, 1) := by decide +kernel
theorem dX13_runs_8 : decode cX13_runs 8 = .ok (.iadd, 1) := by decide +kernel
theorem dX13_runs_9 : decode cX13_runs 9 = .ok (.iaload, 1) := by decide +kernel
theorem dX13_runs_10 : decode cX13_runs 10 = .ok (.iconst 2, 1) := by decide +kernel
theorem dX13_runs_11 : decode cX13_runs 11 = .ok (.if_icmp .ne 5, 3) := by decide +kernel
theorem dX13_runs_14 : decode cX13_runs 14 = .ok (.iconst 0, 1) := by decide +kernel
theorem dX13_runs_15 : decode cX13_runs 15 = .ok (.ireturn, 1) := by decide +kernel
theorem dX13_runs_16 : decode cX13_runs 16 = .ok (.aload_n 0, 1) := by decide +kernel
theorem dX13_runs_17 : decode cX13_runs 17 = .ok (.getfield 98, 3) := by decide +kernel
theorem dX13_runs_20 : decode cX13_runs 20 = .ok (.bipush 121, 2) := by decide +kernel
theorem dX13_runs_22 : decode cX13_runs 22 = .ok (.iload_n 1, 1) := by decide +kernel
theorem dX13_runs_23 : decode cX13_runs 23 = .ok (.iadd, 1) := by decide +kernel
theorem dX13_runs_24 : decode cX13_runs 24 = .ok (.iaload, 1) := by decide +kernel
theorem dX13_runs_25 : decode cX13_runs 25 = .ok (.istore_n 3, 1) := by decide +kernel
theorem dX13_runs_26 : decode cX13_runs 26 = .ok (.aload_n 0, 1) := by decide +kernel
theorem dX13_runs_27 : decode cX13_runs 27 = .ok (.getfield 98, 3) := by decide +kernel
theorem dX13_runs_30 : decode cX13_runs 30 = .ok (.sipush 129, 3) := by decide +kernel
theorem dX13_runs_33 : decode cX13_runs 33 = .ok (.iload_n 1, 1) := by decide +kernel
theorem dX13_runs_34 : decode cX13_runs 34 = .ok (.iadd, 1) := by decide +kernel
theorem dX13_runs_35 : decode cX13_runs 35 = .ok (.iaload, 1) := by decide +kernel
theorem dX13_runs_36 : decode cX13_runs 36 = .ok (.iconst 1, 1) := by decide +kernel
theorem dX13_runs_37 : decode cX13_runs 37 = .ok (.if_icmp .ne 8, 3) := by decide +kernel
theorem dX13_runs_40 : decode cX13_runs 40 = .ok (.iload_n 3, 1) := by decide +kernel
theorem dX13_runs_41 : decode cX13_runs 41 = .ok (.invokestatic 240, 3) := by decide +kernel
theorem dX13_runs_44 : decode cX13_runs 44 = .ok (.istore_n 3, 1) := by decide +kernel
theorem dX13_runs_45 : decode cX13_runs 45 = .ok (.aload_n 0, 1) := by decide +kernel
theorem dX13_runs_46 : decode cX13_runs 46 = .ok (.iload_n 2, 1) := by decide +kernel
theorem dX13_runs_47 : decode cX13_runs 47 = .ok (.invokevirtual 243, 3) := by decide +kernel
theorem dX13_runs_50 : decode cX13_runs 50 = .ok (.ifCond .eq 10, 3) := by decide +kernel
theorem dX13_runs_53 : decode cX13_runs 53 = .ok (.iload_n 3, 1) := by decide +kernel
theorem dX13_runs_54 : decode cX13_runs 54 = .ok (.invokestatic 240, 3) := by decide +kernel
theorem dX13_runs_57 : decode cX13_runs 57 = .ok (.goto 4, 3) := by decide +kernel
theorem dX13_runs_60 : decode cX13_runs 60 = .ok (.iload_n 3, 1) := by decide +kernel
theorem dX13_runs_61 : decode cX13_runs 61 = .ok (.ireturn, 1) := by decide +kernel
theorem dX13_person_0 : decode cX13_person 0 = .ok (.aload_n 0, 1) := by decide +kernel
theorem dX13_person_1 : decode cX13_person 1 = .ok (.iconst 0, 1) := by decide +kernel
theorem dX13_person_2 : decode cX13_person 2 = .ok (.putfield 1, 3) := by decide +kernel
theorem dX13_person_5 : decode cX13_person 5 = .ok (.aload_n 0, 1) := by decide +kernel
theorem dX13_person_6 : decode cX13_person 6 = .ok (.iload_n 1, 1) := by decide +kernel
theorem dX13_person_7 : decode cX13_person 7 = .ok (.invokevirtual 246, 3) := by decide +kernel
theorem dX13_person_10 : decode cX13_person 10 = .ok (.ifCond .ne 8, 3) := by decide +kernel
theorem dX13_person_13 : decode cX13_person 13 = .ok (.aload_n 0, 1) := by decide +kernel
theorem dX13_person_14 : decode cX13_person 14 = .ok (.invokevirtual 249, 3) := by decide +kernel
theorem dX13_person_17 : decode cX13_person 17 = .ok (.ireturn, 1) := by decide +kernel
theorem dX13_person_18 : decode cX13_person 18 = .ok (.aload_n 0, 1) := by decide +kernel
theorem dX13_person_19 : decode cX13_person 19 = .ok (.getfield 98, 3) := by decide +kernel
theorem dX13_person_22 : decode cX13_person 22 = .ok (.bipush 48, 2) := by decide +kernel
theorem dX13_person_24 : decode cX13_person 24 = .ok (.iload_n 1, 1) := by decide +kernel
theorem dX13_person_25 : decode cX13_person 25 = .ok (.iadd, 1) := by decide +kernel
theorem dX13_person_26 : decode cX13_person 26 = .ok (.iaload, 1) := by decide +kernel
theorem dX13_person_27 : decode cX13_person 27 = .ok (.istore_n 3, 1) := by decide +kernel
theorem dX13_person_28 : decode cX13_person 28 = .ok (.iload_n 2, 1) := by decide +kernel
theorem dX13_person_29 : decode cX13_person 29 = .ok (.tableswitch 118 0 5 #[39, 60, 70, 72, 87, 97], 39) := by decide +kernel
theorem dX13_person_68 : decode cX13_person 68 = .ok (.aload_n 0, 1) := by decide +kernel
theorem dX13_person_69 : decode cX13_person 69 = .ok (.iload_n 1, 1) := by decide +kernel
theorem dX13_person_70 : decode cX13_person 70 = .ok (.aload_n 0, 1) := by decide +kernel
theorem dX13_person_71 : decode cX13_person 71 = .ok (.getfield 98, 3) := by decide +kernel
theorem dX13_person_74 : decode cX13_person 74 = .ok (.bipush 102, 2) := by decide +kernel
theorem dX13_person_76 : decode cX13_person 76 = .ok (.iaload, 1) := by decide +kernel
theorem dX13_person_77 : decode cX13_person 77 = .ok (.invokevirtual 234, 3) := by decide +kernel
theorem dX13_person_80 : decode cX13_person 80 = .ok (.ifCond .eq 7, 3) := by decide +kernel
theorem dX13_person_83 : decode cX13_person 83 = .ok (.iconst 1, 1) := by decide +kernel
theorem dX13_person_84 : decode cX13_person 84 = .ok (.goto 4, 3) := by decide +kernel
theorem dX13_person_87 : decode cX13_person 87 = .ok (.iconst 0, 1) := by decide +kernel
theorem dX13_person_88 : decode cX13_person 88 = .ok (.ireturn, 1) := by decide +kernel
theorem dX13_person_89 : decode cX13_person 89 = .ok (.aload_n 0, 1) := by decide +kernel
theorem dX13_person_90 : decode cX13_person 90 = .ok (.getfield 98, 3) := by decide +kernel
theorem dX13_person_93 : decode cX13_person 93 = .ok (.bipush 105, 2) := by decide +kernel
theorem dX13_person_95 : decode cX13_person 95 = .ok (.iload_n 1, 1) := by decide +kernel
theorem dX13_person_96 : decode cX13_person 96 = .ok (.iadd, 1) := by decide +kernel
theorem dX13_person_97 : decode cX13_person 97 = .ok (.iaload, 1) := by decide +kernel
theorem dX13_person_98 : decode cX13_person 98 = .ok (.ireturn, 1) := by decide +kernel
theorem dX13_person_99 : decode cX13_person 99 = .ok (.iload_n 3, 1) := by decide +kernel
theorem dX13_person_100 : decode cX13_person 100 = .ok (.ireturn, 1) := by decide +kernel
theorem dX13_person_101 : decode cX13_person 101 = .ok (.iload_n 3, 1) := by decide +kernel
theorem dX13_person_102 : decode cX13_person 102 = .ok (.iconst (-1), 1) := by decide +kernel
theorem dX13_person_103 : decode cX13_person 103 = .ok (.if_icmp .ne 7, 3) := by decide +kernel
theorem dX13_person_106 : decode cX13_person 106 = .ok (.iconst (-1), 1) := by decide +kernel
theorem dX13_person_107 : decode cX13_person 107 = .ok (.goto 8, 3) := by decide +kernel
theorem dX13_person_110 : decode cX13_person 110 = .ok (.aload_n 0, 1) := by decide +kernel
theorem dX13_person_111 : decode cX13_person 111 = .ok (.iload_n 1, 1) := by decide +kernel
theorem dX13_person_112 : decode cX13_person 112 = .ok (.invokevirtual 252, 3) := by decide +kernel
theorem dX13_person_115 : decode cX13_person 115 = .ok (.ireturn, 1) := by decide +kernel
theorem dX13_person_116 : decode cX13_person 116 = .ok (.aload_n 0, 1) := by decide +kernel
theorem dX13_person_117 : decode cX13_person 117 = .ok (.getfield 98, 3) := by decide +kernel
theorem dX13_person_120 : decode cX13_person 120 = .ok (.bipush 113, 2) := by decide +kernel
theorem dX13_person_122 : decode cX13_person 122 = .ok (.iload_n 1, 1) := by decide +kernel
theorem dX13_person_123 : decode cX13_person 123 = .ok (.iadd, 1) := by decide +kernel
theorem dX13_person_124 : decode cX13_person 124 = .ok (.iaload, 1) := by decide +kernel
theorem dX13_person_125 : decode cX13_person 125 = .ok (.ireturn, 1) := by decide +kernel
theorem dX13_person_126 : decode cX13_person 126 = .ok (.aload_n 0, 1) := by decide +kernel
theorem dX13_person_127 : decode cX13_person 127 = .ok (.iload_n 1, 1) := by decide +kernel
theorem dX13_person_128 : decode cX13_person 128 = .ok (.aload_n 0, 1) := by decide +kernel
theorem dX13_person_129 : decode cX13_person 129 = .ok (.getfield 98, 3) := by decide +kernel
theorem dX13_person_132 : decode cX13_person 132 = .ok (.bipush 102, 2) := by decide +kernel
theorem dX13_person_134 : decode cX13_person 134 = .ok (.iaload, 1) := by decide +kernel
theorem dX13_person_135 : decode cX13_person 135 = .ok (.invokevirtual 255, 3) := by decide +kernel
theorem dX13_person_138 : decode cX13_person 138 = .ok (.ifCond .eq 7, 3) := by decide +kernel
theorem dX13_person_141 : decode cX13_person 141 = .ok (.iconst 1, 1) := by decide +kernel
theorem dX13_person_142 : decode cX13_person 142 = .ok (.goto 4, 3) := by decide +kernel
theorem dX13_person_145 : decode cX13_person 145 = .ok (.iconst 0, 1) := by decide +kernel
theorem dX13_person_146 : decode cX13_person 146 = .ok (.ireturn, 1) := by decide +kernel
theorem dX13_person_147 : decode cX13_person 147 = .ok (.aload_n 0, 1) := by decide +kernel
theorem dX13_person_148 : decode cX13_person 148 = .ok (.invokevirtual 249, 3) := by decide +kernel
theorem dX13_person_151 : decode cX13_person 151 = .ok (.ireturn, 1) := by decide +kernel
theorem dX13_otherOf_0 : decode cX13_otherOf 0 = .ok (.aload_n 0, 1) := by decide +kernel
theorem dX13_otherOf_1 : decode cX13_otherOf 1 = .ok (.getfield 98, 3) := by decide +kernel
theorem dX13_otherOf_4 : decode cX13_otherOf 4 = .ok (.bipush 48, 2) := by decide +kernel
theorem dX13_otherOf_6 : decode cX13_otherOf 6 = .ok (.iload_n 1, 1) := by decide +kernel
theorem dX13_otherOf_7 : decode cX13_otherOf 7 = .ok (.iadd, 1) := by decide +kernel
theorem dX13_otherOf_8 : decode cX13_otherOf 8 = .ok (.iaload, 1) := by decide +kernel
theorem dX13_otherOf_9 : decode cX13_otherOf 9 = .ok (.istore_n 2, 1) := by decide +kernel
theorem dX13_otherOf_10 : decode cX13_otherOf 10 = .ok (.aload_n 0, 1) := by decide +kernel
theorem dX13_otherOf_11 : decode cX13_otherOf 11 = .ok (.getfield 98, 3) := by decide +kernel
theorem dX13_otherOf_14 : decode cX13_otherOf 14 = .ok (.bipush 56, 2) := by decide +kernel
theorem dX13_otherOf_16 : decode cX13_otherOf 16 = .ok (.iload_n 2, 1) := by decide +kernel
theorem dX13_otherOf_17 : decode cX13_otherOf 17 = .ok (.iadd, 1) := by decide +kernel
theorem dX13_otherOf_18 : decode cX13_otherOf 18 = .ok (.iaload, 1) := by decide +kernel
theorem dX13_otherOf_19 : decode cX13_otherOf 19 = .ok (.iload_n 1, 1) := by decide +kernel
theorem dX13_otherOf_20 : decode cX13_otherOf 20 = .ok (.if_icmp .ne 15, 3) := by decide +kernel
theorem dX13_otherOf_23 : decode cX13_otherOf 23 = .ok (.aload_n 0, 1) := by decide +kernel
theorem dX13_otherOf_24 : decode cX13_otherOf 24 = .ok (.getfield 98, 3) := by decide +kernel
theorem dX13_otherOf_27 : decode cX13_otherOf 27 = .ok (.bipush 60, 2) := by decide +kernel
theorem dX13_otherOf_29 : decode cX13_otherOf 29 = .ok (.iload_n 2, 1) := by decide +kernel
theorem dX13_otherOf_30 : decode cX13_otherOf 30 = .ok (.iadd, 1) := by decide +kernel
theorem dX13_otherOf_31 : decode cX13_otherOf 31 = .ok (.iaload, 1) := by decide +kernel
theorem dX13_otherOf_32 : decode cX13_otherOf 32 = .ok (.goto 12, 3) := by decide +kernel
theorem dX13_otherOf_35 : decode cX13_otherOf 35 = .ok (.aload_n 0, 1) := by decide +kernel
theorem dX13_otherOf_36 : decode cX13_otherOf 36 = .ok (.getfield 98, 3) := by decide +kernel
theorem dX13_otherOf_39 : decode cX13_otherOf 39 = .ok (.bipush 56, 2) := by decide +kernel
theorem dX13_otherOf_41 : decode cX13_otherOf 41 = .ok (.iload_n 2, 1) := by decide +kernel
theorem dX13_otherOf_42 : decode cX13_otherOf 42 = .ok (.iadd, 1) := by decide +kernel
theorem dX13_otherOf_43 : decode cX13_otherOf 43 = .ok (.iaload, 1) := by decide +kernel
theorem dX13_otherOf_44 : decode cX13_otherOf 44 = .ok (.ireturn, 1) := by decide +kernel
theorem dX13_glass_0 : decode cX13_glass 0 = .ok (.aload_n 0, 1) := by decide +kernel
theorem dX13_glass_1 : decode cX13_glass 1 = .ok (.iconst 0, 1) := by decide +kernel
theorem dX13_glass_2 : decode cX13_glass 2 = .ok (.putfield 1, 3) := by decide +kernel
theorem dX13_glass_5 : decode cX13_glass 5 = .ok (.aload_n 0, 1) := by decide +kernel
theorem dX13_glass_6 : decode cX13_glass 6 = .ok (.iload_n 1, 1) := by decide +kernel
theorem dX13_glass_7 : decode cX13_glass 7 = .ok (.invokevirtual 258, 3) := by decide +kernel
theorem dX13_glass_10 : decode cX13_glass 10 = .ok (.ifCond .ne 8, 3) := by decide +kernel
theorem dX13_glass_13 : decode cX13_glass 13 = .ok (.aload_n 0, 1) := by decide +kernel
theorem dX13_glass_14 : decode cX13_glass 14 = .ok (.invokevirtual 249, 3) := by decide +kernel
theorem dX13_glass_17 : decode cX13_glass 17 = .ok (.ireturn, 1) := by decide +kernel
theorem dX13_glass_18 : decode cX13_glass 18 = .ok (.iload_n 2, 1) := by decide +kernel
theorem dX13_glass_19 : decode cX13_glass 19 = .ok (.tableswitch 188 0 9 #[53, 63, 73, 83, 93, 103, 114, 128, 139, 150], 53) := by decide +kernel
theorem dX13_glass_72 : decode cX13_glass 72 = .ok (.aload_n 0, 1) := by decide +kernel
theorem dX13_glass_73 : decode cX13_glass 73 = .ok (.getfield 98, 3) := by decide +kernel
theorem dX13_glass_76 : decode cX13_glass 76 = .ok (.bipush 56, 2) := by decide +kernel
theorem dX13_glass_78 : decode cX13_glass 78 = .ok (.iload_n 1, 1) := by decide +kernel
theorem dX13_glass_79 : decode cX13_glass 79 = .ok (.iadd, 1) := by decide +kernel
theorem dX13_glass_80 : decode cX13_glass 80 = .ok (.iaload, 1) := by decide +kernel
theorem dX13_glass_81 : decode cX13_glass 81 = .ok (.ireturn, 1) := by decide +kernel
theorem dX13_glass_82 : decode cX13_glass 82 = .ok (.aload_n 0, 1) := by decide +kernel
theorem dX13_glass_83 : decode cX13_glass 83 = .ok (.getfield 98, 3) := by decide +kernel
theorem dX13_glass_86 : decode cX13_glass 86 = .ok (.bipush 60, 2) := by decide +kernel
theorem dX13_glass_88 : decode cX13_glass 88 = .ok (.iload_n 1, 1) := by decide +kernel
theorem dX13_glass_89 : decode cX13_glass 89 = .ok (.iadd, 1) := by decide +kernel
theorem dX13_glass_90 : decode cX13_glass 90 = .ok (.iaload, 1) := by decide +kernel
theorem dX13_glass_91 : decode cX13_glass 91 = .ok (.ireturn, 1) := by decide +kernel
theorem dX13_glass_92 : decode cX13_glass 92 = .ok (.aload_n 0, 1) := by decide +kernel
theorem dX13_glass_93 : decode cX13_glass 93 = .ok (.getfield 98, 3) := by decide +kernel
theorem dX13_glass_96 : decode cX13_glass 96 = .ok (.bipush 64, 2) := by decide +kernel
theorem dX13_glass_98 : decode cX13_glass 98 = .ok (.iload_n 1, 1) := by decide +kernel
theorem dX13_glass_99 : decode cX13_glass 99 = .ok (.iadd, 1) := by decide +kernel
theorem dX13_glass_100 : decode cX13_glass 100 = .ok (.iaload, 1) := by decide +kernel
theorem dX13_glass_101 : decode cX13_glass 101 = .ok (.ireturn, 1) := by decide +kernel
theorem dX13_glass_102 : decode cX13_glass 102 = .ok (.aload_n 0, 1) := by decide +kernel
theorem dX13_glass_103 : decode cX13_glass 103 = .ok (.getfield 98, 3) := by decide +kernel
theorem dX13_glass_106 : decode cX13_glass 106 = .ok (.bipush 121, 2) := by decide +kernel
theorem dX13_glass_108 : decode cX13_glass 108 = .ok (.iload_n 1, 1) := by decide +kernel
theorem dX13_glass_109 : decode cX13_glass 109 = .ok (.iadd, 1) := by decide +kernel
theorem dX13_glass_110 : decode cX13_glass 110 = .ok (.iaload, 1) := by decide +kernel
theorem dX13_glass_111 : decode cX13_glass 111 = .ok (.ireturn, 1) := by decide +kernel
theorem dX13_glass_112 : decode cX13_glass 112 = .ok (.aload_n 0, 1) := by decide +kernel
theorem dX13_glass_113 : decode cX13_glass 113 = .ok (.getfield 98, 3) := by decide +kernel
theorem dX13_glass_116 : decode cX13_glass 116 = .ok (.bipush 125, 2) := by decide +kernel
theorem dX13_glass_118 : decode cX13_glass 118 = .ok (.iload_n 1, 1) := by decide +kernel
theorem dX13_glass_119 : decode cX13_glass 119 = .ok (.iadd, 1) := by decide +kernel
theorem dX13_glass_120 : decode cX13_glass 120 = .ok (.iaload, 1) := by decide +kernel
theorem dX13_glass_121 : decode cX13_glass 121 = .ok (.ireturn, 1) := by decide +kernel
theorem dX13_glass_122 : decode cX13_glass 122 = .ok (.aload_n 0, 1) := by decide +kernel
theorem dX13_glass_123 : decode cX13_glass 123 = .ok (.getfield 98, 3) := by decide +kernel
theorem dX13_glass_126 : decode cX13_glass 126 = .ok (.sipush 129, 3) := by decide +kernel
theorem dX13_glass_129 : decode cX13_glass 129 = .ok (.iload_n 1, 1) := by decide +kernel
theorem dX13_glass_130 : decode cX13_glass 130 = .ok (.iadd, 1) := by decide +kernel
theorem dX13_glass_131 : decode cX13_glass 131 = .ok (.iaload, 1) := by decide +kernel
theorem dX13_glass_132 : decode cX13_glass 132 = .ok (.ireturn, 1) := by decide +kernel
theorem dX13_glass_133 : decode cX13_glass 133 = .ok (.aload_n 0, 1) := by decide +kernel
theorem dX13_glass_134 : decode cX13_glass 134 = .ok (.iload_n 1, 1) := by decide +kernel
theorem dX13_glass_135 : decode cX13_glass 135 = .ok (.invokevirtual 261, 3) := by decide +kernel
theorem dX13_glass_138 : decode cX13_glass 138 = .ok (.ifCond .eq 7, 3) := by decide +kernel
theorem dX13_glass_141 : decode cX13_glass 141 = .ok (.iconst 1, 1) := by decide +kernel
theorem dX13_glass_142 : decode cX13_glass 142 = .ok (.goto 4, 3) := by decide +kernel
theorem dX13_glass_145 : decode cX13_glass 145 = .ok (.iconst 0, 1) := by decide +kernel
theorem dX13_glass_146 : decode cX13_glass 146 = .ok (.ireturn, 1) := by decide +kernel
theorem dX13_glass_147 : decode cX13_glass 147 = .ok (.aload_n 0, 1) := by decide +kernel
theorem dX13_glass_148 : decode cX13_glass 148 = .ok (.getfield 98, 3) := by decide +kernel
theorem dX13_glass_151 : decode cX13_glass 151 = .ok (.sipush 133, 3) := by decide +kernel
theorem dX13_glass_154 : decode cX13_glass 154 = .ok (.iload_n 1, 1) := by decide +kernel
theorem dX13_glass_155 : decode cX13_glass 155 = .ok (.iadd, 1) := by decide +kernel
theorem dX13_glass_156 : decode cX13_glass 156 = .ok (.iaload, 1) := by decide +kernel
theorem dX13_glass_157 : decode cX13_glass 157 = .ok (.ireturn, 1) := by decide +kernel
theorem dX13_glass_158 : decode cX13_glass 158 = .ok (.aload_n 0, 1) := by decide +kernel
theorem dX13_glass_159 : decode cX13_glass 159 = .ok (.getfield 98, 3) := by decide +kernel
theorem dX13_glass_162 : decode cX13_glass 162 = .ok (.sipush 137, 3) := by decide +kernel
theorem dX13_glass_165 : decode cX13_glass 165 = .ok (.iload_n 1, 1) := by decide +kernel
theorem dX13_glass_166 : decode cX13_glass 166 = .ok (.iadd, 1) := by decide +kernel
theorem dX13_glass_167 : decode cX13_glass 167 = .ok (.iaload, 1) := by decide +kernel
theorem dX13_glass_168 : decode cX13_glass 168 = .ok (.ireturn, 1) := by decide +kernel
theorem dX13_glass_169 : decode cX13_glass 169 = .ok (.aload_n 0, 1) := by decide +kernel
theorem dX13_glass_170 : decode cX13_glass 170 = .ok (.iload_n 1, 1) := by decide +kernel
theorem dX13_glass_171 : decode cX13_glass 171 = .ok (.invokevirtual 261, 3) := by decide +kernel
theorem dX13_glass_174 : decode cX13_glass 174 = .ok (.ifCond .ne 16, 3) := by decide +kernel
theorem dX13_glass_177 : decode cX13_glass 177 = .ok (.aload_n 0, 1) := by decide +kernel
theorem dX13_glass_178 : decode cX13_glass 178 = .ok (.getfield 98, 3) := by decide +kernel
theorem dX13_glass_181 : decode cX13_glass 181 = .ok (.bipush 102, 2) := by decide +kernel
theorem dX13_glass_183 : decode cX13_glass 183 = .ok (.iaload, 1) := by decide +kernel
theorem dX13_glass_184 : decode cX13_glass 184 = .ok (.sipush 600, 3) := by decide +kernel
theorem dX13_glass_187 : decode cX13_glass 187 = .ok (.if_icmp .ne 7, 3) := by decide +kernel
theorem dX13_glass_190 : decode cX13_glass 190 = .ok (.iconst 0, 1) := by decide +kernel
theorem dX13_glass_191 : decode cX13_glass 191 = .ok (.goto 15, 3) := by decide +kernel
theorem dX13_glass_194 : decode cX13_glass 194 = .ok (.aload_n 0, 1) := by decide +kernel
theorem dX13_glass_195 : decode cX13_glass 195 = .ok (.iload_n 1, 1) := by decide +kernel
theorem dX13_glass_196 : decode cX13_glass 196 = .ok (.aload_n 0, 1) := by decide +kernel
theorem dX13_glass_197 : decode cX13_glass 197 = .ok (.getfield 98, 3) := by decide +kernel
theorem dX13_glass_200 : decode cX13_glass 200 = .ok (.bipush 102, 2) := by decide +kernel
theorem dX13_glass_202 : decode cX13_glass 202 = .ok (.iaload, 1) := by decide +kernel
theorem dX13_glass_203 : decode cX13_glass 203 = .ok (.invokevirtual 264, 3) := by decide +kernel
theorem dX13_glass_206 : decode cX13_glass 206 = .ok (.ireturn, 1) := by decide +kernel
theorem dX13_glass_207 : decode cX13_glass 207 = .ok (.aload_n 0, 1) := by decide +kernel
theorem dX13_glass_208 : decode cX13_glass 208 = .ok (.invokevirtual 249, 3) := by decide +kernel
theorem dX13_glass_211 : decode cX13_glass 211 = .ok (.ireturn, 1) := by decide +kernel
theorem dX13_now_0 : decode cX13_now 0 = .ok (.aload_n 0, 1) := by decide +kernel
theorem dX13_now_1 : decode cX13_now 1 = .ok (.iconst 0, 1) := by decide +kernel
theorem dX13_now_2 : decode cX13_now 2 = .ok (.putfield 1, 3) := by decide +kernel
theorem dX13_now_5 : decode cX13_now 5 = .ok (.iconst 0, 1) := by decide +kernel
theorem dX13_now_6 : decode cX13_now 6 = .ok (.istore_n 2, 1) := by decide +kernel
theorem dX13_now_7 : decode cX13_now 7 = .ok (.iload_n 1, 1) := by decide +kernel
theorem dX13_now_8 : decode cX13_now 8 = .ok (.tableswitch 182 0 5 #[40, 48, 68, 76, 117, 150], 40) := by decide +kernel
theorem dX13_now_48 : decode cX13_now 48 = .ok (.aload_n 0, 1) := by decide +kernel
theorem dX13_now_49 : decode cX13_now 49 = .ok (.getfield 98, 3) := by decide +kernel
theorem dX13_now_52 : decode cX13_now 52 = .ok (.bipush 102, 2) := by decide +kernel
theorem dX13_now_54 : decode cX13_now 54 = .ok (.iaload, 1) := by decide +kernel
theorem dX13_now_55 : decode cX13_now 55 = .ok (.ireturn, 1) := by decide +kernel
theorem dX13_now_56 : decode cX13_now 56 = .ok (.aload_n 0, 1) := by decide +kernel
theorem dX13_now_57 : decode cX13_now 57 = .ok (.aload_n 0, 1) := by decide +kernel
theorem dX13_now_58 : decode cX13_now 58 = .ok (.getfield 98, 3) := by decide +kernel
theorem dX13_now_61 : decode cX13_now 61 = .ok (.bipush 102, 2) := by decide +kernel
theorem dX13_now_63 : decode cX13_now 63 = .ok (.iaload, 1) := by decide +kernel
theorem dX13_now_64 : decode cX13_now 64 = .ok (.invokevirtual 243, 3) := by decide +kernel
theorem dX13_now_67 : decode cX13_now 67 = .ok (.ifCond .eq 7, 3) := by decide +kernel
theorem dX13_now_70 : decode cX13_now 70 = .ok (.iconst 1, 1) := by decide +kernel
theorem dX13_now_71 : decode cX13_now 71 = .ok (.goto 4, 3) := by decide +kernel
theorem dX13_now_74 : decode cX13_now 74 = .ok (.iconst 0, 1) := by decide +kernel
theorem dX13_now_75 : decode cX13_now 75 = .ok (.ireturn, 1) := by decide +kernel
theorem dX13_now_76 : decode cX13_now 76 = .ok (.aload_n 0, 1) := by decide +kernel
theorem dX13_now_77 : decode cX13_now 77 = .ok (.getfield 98, 3) := by decide +kernel
theorem dX13_now_80 : decode cX13_now 80 = .ok (.bipush 104, 2) := by decide +kernel
theorem dX13_now_82 : decode cX13_now 82 = .ok (.iaload, 1) := by decide +kernel
theorem dX13_now_83 : decode cX13_now 83 = .ok (.ireturn, 1) := by decide +kernel
theorem dX13_now_84 : decode cX13_now 84 = .ok (.iconst 0, 1) := by decide +kernel
theorem dX13_now_85 : decode cX13_now 85 = .ok (.istore_n 3, 1) := by decide +kernel
theorem dX13_now_86 : decode cX13_now 86 = .ok (.iload_n 3, 1) := by decide +kernel
theorem dX13_now_87 : decode cX13_now 87 = .ok (.aload_n 0, 1) := by decide +kernel
theorem dX13_now_88 : decode cX13_now 88 = .ok (.getfield 98, 3) := by decide +kernel
theorem dX13_now_91 : decode cX13_now 91 = .ok (.iconst 0, 1) := by decide +kernel
theorem dX13_now_92 : decode cX13_now 92 = .ok (.iaload, 1) := by decide +kernel
theorem dX13_now_93 : decode cX13_now 93 = .ok (.if_icmp .ge 30, 3) := by decide +kernel
theorem dX13_now_96 : decode cX13_now 96 = .ok (.aload_n 0, 1) := by decide +kernel
theorem dX13_now_97 : decode cX13_now 97 = .ok (.iload_n 3, 1) := by decide +kernel
theorem dX13_now_98 : decode cX13_now 98 = .ok (.aload_n 0, 1) := by decide +kernel
theorem dX13_now_99 : decode cX13_now 99 = .ok (.getfield 98, 3) := by decide +kernel
theorem dX13_now_102 : decode cX13_now 102 = .ok (.bipush 102, 2) := by decide +kernel
theorem dX13_now_104 : decode cX13_now 104 = .ok (.iaload, 1) := by decide +kernel
theorem dX13_now_105 : decode cX13_now 105 = .ok (.invokevirtual 234, 3) := by decide +kernel
theorem dX13_now_108 : decode cX13_now 108 = .ok (.ifCond .eq 9, 3) := by decide +kernel
theorem dX13_now_111 : decode cX13_now 111 = .ok (.iload_n 2, 1) := by decide +kernel
theorem dX13_now_112 : decode cX13_now 112 = .ok (.iconst 1, 1) := by decide +kernel
theorem dX13_now_113 : decode cX13_now 113 = .ok (.iload_n 3, 1) := by decide +kernel
theorem dX13_now_114 : decode cX13_now 114 = .ok (.ishl, 1) := by decide +kernel
theorem dX13_now_115 : decode cX13_now 115 = .ok (.ior, 1) := by decide +kernel
theorem dX13_now_116 : decode cX13_now 116 = .ok (.istore_n 2, 1) := by decide +kernel
theorem dX13_now_117 : decode cX13_now 117 = .ok (.iinc 3 1, 3) := by decide +kernel
theorem dX13_now_120 : decode cX13_now 120 = .ok (.goto (-34), 3) := by decide +kernel
theorem dX13_now_123 : decode cX13_now 123 = .ok (.iload_n 2, 1) := by decide +kernel
theorem dX13_now_124 : decode cX13_now 124 = .ok (.ireturn, 1) := by decide +kernel
theorem dX13_now_125 : decode cX13_now 125 = .ok (.iconst 0, 1) := by decide +kernel
theorem dX13_now_126 : decode cX13_now 126 = .ok (.istore_n 3, 1) := by decide +kernel
theorem dX13_now_127 : decode cX13_now 127 = .ok (.iload_n 3, 1) := by decide +kernel
theorem dX13_now_128 : decode cX13_now 128 = .ok (.aload_n 0, 1) := by decide +kernel
theorem dX13_now_129 : decode cX13_now 129 = .ok (.getfield 98, 3) := by decide +kernel
theorem dX13_now_132 : decode cX13_now 132 = .ok (.iconst 1, 1) := by decide +kernel
theorem dX13_now_133 : decode cX13_now 133 = .ok (.iaload, 1) := by decide +kernel
theorem dX13_now_134 : decode cX13_now 134 = .ok (.if_icmp .ge 22, 3) := by decide +kernel
theorem dX13_now_137 : decode cX13_now 137 = .ok (.iload_n 2, 1) := by decide +kernel
theorem dX13_now_138 : decode cX13_now 138 = .ok (.aload_n 0, 1) := by decide +kernel
theorem dX13_now_139 : decode cX13_now 139 = .ok (.getfield 98, 3) := by decide +kernel
theorem dX13_now_142 : decode cX13_now 142 = .ok (.sipush 137, 3) := by decide +kernel
theorem dX13_now_145 : decode cX13_now 145 = .ok (.iload_n 3, 1) := by decide +kernel
theorem dX13_now_146 : decode cX13_now 146 = .ok (.iadd, 1) := by decide +kernel
theorem dX13_now_147 : decode cX13_now 147 = .ok (.iaload, 1) := by decide +kernel
theorem dX13_now_148 : decode cX13_now 148 = .ok (.iadd, 1) := by decide +kernel
theorem dX13_now_149 : decode cX13_now 149 = .ok (.istore_n 2, 1) := by decide +kernel
theorem dX13_now_150 : decode cX13_now 150 = .ok (.iinc 3 1, 3) := by decide +kernel
theorem dX13_now_153 : decode cX13_now 153 = .ok (.goto (-26), 3) := by decide +kernel
theorem dX13_now_156 : decode cX13_now 156 = .ok (.iload_n 2, 1) := by decide +kernel
theorem dX13_now_157 : decode cX13_now 157 = .ok (.ireturn, 1) := by decide +kernel
theorem dX13_now_158 : decode cX13_now 158 = .ok (.iconst 0, 1) := by decide +kernel
theorem dX13_now_159 : decode cX13_now 159 = .ok (.istore_n 3, 1) := by decide +kernel
theorem dX13_now_160 : decode cX13_now 160 = .ok (.iload_n 3, 1) := by decide +kernel
theorem dX13_now_161 : decode cX13_now 161 = .ok (.aload_n 0, 1) := by decide +kernel
theorem dX13_now_162 : decode cX13_now 162 = .ok (.getfield 98, 3) := by decide +kernel
theorem dX13_now_165 : decode cX13_now 165 = .ok (.iconst 1, 1) := by decide +kernel
theorem dX13_now_166 : decode cX13_now 166 = .ok (.iaload, 1) := by decide +kernel
theorem dX13_now_167 : decode cX13_now 167 = .ok (.if_icmp .ge 21, 3) := by decide +kernel
theorem dX13_now_170 : decode cX13_now 170 = .ok (.iload_n 2, 1) := by decide +kernel
theorem dX13_now_171 : decode cX13_now 171 = .ok (.aload_n 0, 1) := by decide +kernel
theorem dX13_now_172 : decode cX13_now 172 = .ok (.getfield 98, 3) := by decide +kernel
theorem dX13_now_175 : decode cX13_now 175 = .ok (.bipush 125, 2) := by decide +kernel
theorem dX13_now_177 : decode cX13_now 177 = .ok (.iload_n 3, 1) := by decide +kernel
theorem dX13_now_178 : decode cX13_now 178 = .ok (.iadd, 1) := by decide +kernel
theorem dX13_now_179 : decode cX13_now 179 = .ok (.iaload, 1) := by decide +kernel
theorem dX13_now_180 : decode cX13_now 180 = .ok (.iadd, 1) := by decide +kernel
theorem dX13_now_181 : decode cX13_now 181 = .ok (.istore_n 2, 1) := by decide +kernel
theorem dX13_now_182 : decode cX13_now 182 = .ok (.iinc 3 1, 3) := by decide +kernel
theorem dX13_now_185 : decode cX13_now 185 = .ok (.goto (-25), 3) := by decide +kernel
theorem dX13_now_188 : decode cX13_now 188 = .ok (.iload_n 2, 1) := by decide +kernel
theorem dX13_now_189 : decode cX13_now 189 = .ok (.ireturn, 1) := by decide +kernel
theorem dX13_now_190 : decode cX13_now 190 = .ok (.iconst (-1), 1) := by decide +kernel
theorem dX13_now_191 : decode cX13_now 191 = .ok (.ireturn, 1) := by decide +kernel
theorem dX13_snap_0 : decode cX13_snap 0 = .ok (.aload_n 0, 1) := by decide +kernel
theorem dX13_snap_1 : decode cX13_snap 1 = .ok (.getfield 221, 3) := by decide +kernel
theorem dX13_snap_4 : decode cX13_snap 4 = .ok (.bipush 8, 2) := by decide +kernel
theorem dX13_snap_6 : decode cX13_snap 6 = .ok (.if_icmp .ne 43, 3) := by decide +kernel
theorem dX13_snap_9 : decode cX13_snap 9 = .ok (.iconst 0, 1) := by decide +kernel
theorem dX13_snap_10 : decode cX13_snap 10 = .ok (.istore_n 1, 1) := by decide +kernel
theorem dX13_snap_11 : decode cX13_snap 11 = .ok (.iload_n 1, 1) := by decide +kernel
theorem dX13_snap_12 : decode cX13_snap 12 = .ok (.sipush 273, 3) := by decide +kernel
theorem dX13_snap_15 : decode cX13_snap 15 = .ok (.if_icmp .ge 24, 3) := by decide +kernel
theorem dX13_snap_18 : decode cX13_snap 18 = .ok (.aload_n 0, 1) := by decide +kernel
theorem dX13_snap_19 : decode cX13_snap 19 = .ok (.getfield 107, 3) := by decide +kernel
theorem dX13_snap_22 : decode cX13_snap 22 = .ok (.iload_n 1, 1) := by decide +kernel
theorem dX13_snap_23 : decode cX13_snap 23 = .ok (.aload_n 0, 1) := by decide +kernel
theorem dX13_snap_24 : decode cX13_snap 24 = .ok (.getfield 107, 3) := by decide +kernel
theorem dX13_snap_27 : decode cX13_snap 27 = .ok (.iload_n 1, 1) := by decide +kernel
theorem dX13_snap_28 : decode cX13_snap 28 = .ok (.bipush 39, 2) := by decide +kernel
theorem dX13_snap_30 : decode cX13_snap 30 = .ok (.iadd, 1) := by decide +kernel
theorem dX13_snap_31 : decode cX13_snap 31 = .ok (.iaload, 1) := by decide +kernel
theorem dX13_snap_32 : decode cX13_snap 32 = .ok (.iastore, 1) := by decide +kernel
theorem dX13_snap_33 : decode cX13_snap 33 = .ok (.iinc 1 1, 3) := by decide +kernel
theorem dX13_snap_36 : decode cX13_snap 36 = .ok (.goto (-25), 3) := by decide +kernel
theorem dX13_snap_39 : decode cX13_snap 39 = .ok (.aload_n 0, 1) := by decide +kernel
theorem dX13_snap_40 : decode cX13_snap 40 = .ok (.dup, 1) := by decide +kernel
theorem dX13_snap_41 : decode cX13_snap 41 = .ok (.getfield 221, 3) := by decide +kernel
theorem dX13_snap_44 : decode cX13_snap 44 = .ok (.iconst 1, 1) := by decide +kernel
theorem dX13_snap_45 : decode cX13_snap 45 = .ok (.isub, 1) := by decide +kernel
theorem dX13_snap_46 : decode cX13_snap 46 = .ok (.putfield 221, 3) := by decide +kernel
theorem dX13_snap_49 : decode cX13_snap 49 = .ok (.iconst 0, 1) := by decide +kernel
theorem dX13_snap_50 : decode cX13_snap 50 = .ok (.istore_n 1, 1) := by decide +kernel
theorem dX13_snap_51 : decode cX13_snap 51 = .ok (.iload_n 1, 1) := by decide +kernel
theorem dX13_snap_52 : decode cX13_snap 52 = .ok (.bipush 39, 2) := by decide +kernel
theorem dX13_snap_54 : decode cX13_snap 54 = .ok (.if_icmp .ge 32, 3) := by decide +kernel
theorem dX13_snap_57 : decode cX13_snap 57 = .ok (.aload_n 0, 1) := by decide +kernel
theorem dX13_snap_58 : decode cX13_snap 58 = .ok (.getfield 107, 3) := by decide +kernel
theorem dX13_snap_61 : decode cX13_snap 61 = .ok (.bipush 39, 2) := by decide +kernel
theorem dX13_snap_63 : decode cX13_snap 63 = .ok (.aload_n 0, 1) := by decide +kernel
theorem dX13_snap_64 : decode cX13_snap 64 = .ok (.getfield 221, 3) := by decide +kernel
theorem dX13_snap_67 : decode cX13_snap 67 = .ok (.imul, 1) := by decide +kernel
theorem dX13_snap_68 : decode cX13_snap 68 = .ok (.iload_n 1, 1) := by decide +kernel
theorem dX13_snap_69 : decode cX13_snap 69 = .ok (.iadd, 1) := by decide +kernel
theorem dX13_snap_70 : decode cX13_snap 70 = .ok (.aload_n 0, 1) := by decide +kernel
theorem dX13_snap_71 : decode cX13_snap 71 = .ok (.getfield 98, 3) := by decide +kernel
theorem dX13_snap_74 : decode cX13_snap 74 = .ok (.bipush 102, 2) := by decide +kernel
theorem dX13_snap_76 : decode cX13_snap 76 = .ok (.iload_n 1, 1) := by decide +kernel
theorem dX13_snap_77 : decode cX13_snap 77 = .ok (.iadd, 1) := by decide +kernel
theorem dX13_snap_78 : decode cX13_snap 78 = .ok (.iaload, 1) := by decide +kernel
theorem dX13_snap_79 : decode cX13_snap 79 = .ok (.iastore, 1) := by decide +kernel
theorem dX13_snap_80 : decode cX13_snap 80 = .ok (.iinc 1 1, 3) := by decide +kernel
theorem dX13_snap_83 : decode cX13_snap 83 = .ok (.goto (-32), 3) := by decide +kernel
theorem dX13_snap_86 : decode cX13_snap 86 = .ok (.aload_n 0, 1) := by decide +kernel
theorem dX13_snap_87 : decode cX13_snap 87 = .ok (.dup, 1) := by decide +kernel
theorem dX13_snap_88 : decode cX13_snap 88 = .ok (.getfield 221, 3) := by decide +kernel
theorem dX13_snap_91 : decode cX13_snap 91 = .ok (.iconst 1, 1) := by decide +kernel
theorem dX13_snap_92 : decode cX13_snap 92 = .ok (.iadd, 1) := by decide +kernel
theorem dX13_snap_93 : decode cX13_snap 93 = .ok (.putfield 221, 3) := by decide +kernel
theorem dX13_snap_96 : decode cX13_snap 96 = .ok (.return_, 1) := by decide +kernel
theorem dX13_whyWed_0 : decode cX13_whyWed 0 = .ok (.aload_n 0, 1) := by decide +kernel
theorem dX13_whyWed_1 : decode cX13_whyWed 1 = .ok (.getfield 98, 3) := by decide +kernel
theorem dX13_whyWed_4 : decode cX13_whyWed 4 = .ok (.bipush 48, 2) := by decide +kernel
theorem dX13_whyWed_6 : decode cX13_whyWed 6 = .ok (.iload_n 1, 1) := by decide +kernel
theorem dX13_whyWed_7 : decode cX13_whyWed 7 = .ok (.iadd, 1) := by decide +kernel
theorem dX13_whyWed_8 : decode cX13_whyWed 8 = .ok (.iaload, 1) := by decide +kernel
theorem dX13_whyWed_9 : decode cX13_whyWed 9 = .ok (.istore_n 2, 1) := by decide +kernel
theorem dX13_whyWed_10 : decode cX13_whyWed 10 = .ok (.iload_n 2, 1) := by decide +kernel
theorem dX13_whyWed_11 : decode cX13_whyWed 11 = .ok (.iconst (-1), 1) := by decide +kernel
theorem dX13_whyWed_12 : decode cX13_whyWed 12 = .ok (.if_icmp .eq 11, 3) := by decide +kernel
theorem dX13_whyWed_15 : decode cX13_whyWed 15 = .ok (.aload_n 0, 1) := by decide +kernel
theorem dX13_whyWed_16 : decode cX13_whyWed 16 = .ok (.iload_n 2, 1) := by decide +kernel
theorem dX13_whyWed_17 : decode cX13_whyWed 17 = .ok (.invokevirtual 261, 3) := by decide +kernel
theorem dX13_whyWed_20 : decode cX13_whyWed 20 = .ok (.ifCond .eq 5, 3) := by decide +kernel
theorem dX13_whyWed_23 : decode cX13_whyWed 23 = .ok (.iconst 1, 1) := by decide +kernel
theorem dX13_whyWed_24 : decode cX13_whyWed 24 = .ok (.ireturn, 1) := by decide +kernel
theorem dX13_whyWed_25 : decode cX13_whyWed 25 = .ok (.aload_n 0, 1) := by decide +kernel
theorem dX13_whyWed_26 : decode cX13_whyWed 26 = .ok (.iload_n 1, 1) := by decide +kernel
theorem dX13_whyWed_27 : decode cX13_whyWed 27 = .ok (.aload_n 0, 1) := by decide +kernel
theorem dX13_whyWed_28 : decode cX13_whyWed 28 = .ok (.getfield 98, 3) := by decide +kernel
theorem dX13_whyWed_31 : decode cX13_whyWed 31 = .ok (.bipush 102, 2) := by decide +kernel
theorem dX13_whyWed_33 : decode cX13_whyWed 33 = .ok (.iaload, 1) := by decide +kernel
theorem dX13_whyWed_34 : decode cX13_whyWed 34 = .ok (.invokevirtual 234, 3) := by decide +kernel
theorem dX13_whyWed_37 : decode cX13_whyWed 37 = .ok (.ifCond .eq 7, 3) := by decide +kernel
theorem dX13_whyWed_40 : decode cX13_whyWed 40 = .ok (.iconst 0, 1) := by decide +kernel
theorem dX13_whyWed_41 : decode cX13_whyWed 41 = .ok (.goto 4, 3) := by decide +kernel
theorem dX13_whyWed_44 : decode cX13_whyWed 44 = .ok (.iconst 2, 1) := by decide +kernel
theorem dX13_whyWed_45 : decode cX13_whyWed 45 = .ok (.ireturn, 1) := by decide +kernel
theorem dX13_whyTurn_0 : decode cX13_whyTurn 0 = .ok (.aload_n 0, 1) := by decide +kernel
theorem dX13_whyTurn_1 : decode cX13_whyTurn 1 = .ok (.iload_n 1, 1) := by decide +kernel
theorem dX13_whyTurn_2 : decode cX13_whyTurn 2 = .ok (.invokevirtual 267, 3) := by decide +kernel
theorem dX13_whyTurn_5 : decode cX13_whyTurn 5 = .ok (.ifCond .eq 9, 3) := by decide +kernel
theorem dX13_whyTurn_8 : decode cX13_whyTurn 8 = .ok (.aload_n 0, 1) := by decide +kernel
theorem dX13_whyTurn_9 : decode cX13_whyTurn 9 = .ok (.iload_n 1, 1) := by decide +kernel
theorem dX13_whyTurn_10 : decode cX13_whyTurn 10 = .ok (.invokevirtual 267, 3) := by decide +kernel
theorem dX13_whyTurn_13 : decode cX13_whyTurn 13 = .ok (.ireturn, 1) := by decide +kernel
theorem dX13_whyTurn_14 : decode cX13_whyTurn 14 = .ok (.aload_n 0, 1) := by decide +kernel
theorem dX13_whyTurn_15 : decode cX13_whyTurn 15 = .ok (.getfield 98, 3) := by decide +kernel
theorem dX13_whyTurn_18 : decode cX13_whyTurn 18 = .ok (.bipush 48, 2) := by decide +kernel
theorem dX13_whyTurn_20 : decode cX13_whyTurn 20 = .ok (.iload_n 1, 1) := by decide +kernel
theorem dX13_whyTurn_21 : decode cX13_whyTurn 21 = .ok (.iadd, 1) := by decide +kernel
theorem dX13_whyTurn_22 : decode cX13_whyTurn 22 = .ok (.iaload, 1) := by decide +kernel
theorem dX13_whyTurn_23 : decode cX13_whyTurn 23 = .ok (.istore_n 2, 1) := by decide +kernel
theorem dX13_whyTurn_24 : decode cX13_whyTurn 24 = .ok (.aload_n 0, 1) := by decide +kernel
theorem dX13_whyTurn_25 : decode cX13_whyTurn 25 = .ok (.getfield 98, 3) := by decide +kernel
theorem dX13_whyTurn_28 : decode cX13_whyTurn 28 = .ok (.bipush 125, 2) := by decide +kernel
theorem dX13_whyTurn_30 : decode cX13_whyTurn 30 = .ok (.iload_n 2, 1) := by decide +kernel
theorem dX13_whyTurn_31 : decode cX13_whyTurn 31 = .ok (.iadd, 1) := by decide +kernel
theorem dX13_whyTurn_32 : decode cX13_whyTurn 32 = .ok (.iaload, 1) := by decide +kernel
theorem dX13_whyTurn_33 : decode cX13_whyTurn 33 = .ok (.ifCond .le 14, 3) := by decide +kernel
theorem dX13_whyTurn_36 : decode cX13_whyTurn 36 = .ok (.aload_n 0, 1) := by decide +kernel
theorem dX13_whyTurn_37 : decode cX13_whyTurn 37 = .ok (.getfield 98, 3) := by decide +kernel
theorem dX13_whyTurn_40 : decode cX13_whyTurn 40 = .ok (.iconst 5, 1) := by decide +kernel
theorem dX13_whyTurn_41 : decode cX13_whyTurn 41 = .ok (.iaload, 1) := by decide +kernel
theorem dX13_whyTurn_42 : decode cX13_whyTurn 42 = .ok (.ifCond .ne 5, 3) := by decide +kernel
theorem dX13_whyTurn_45 : decode cX13_whyTurn 45 = .ok (.iconst 3, 1) := by decide +kernel
theorem dX13_whyTurn_46 : decode cX13_whyTurn 46 = .ok (.ireturn, 1) := by decide +kernel
theorem dX13_whyTurn_47 : decode cX13_whyTurn 47 = .ok (.aload_n 0, 1) := by decide +kernel
theorem dX13_whyTurn_48 : decode cX13_whyTurn 48 = .ok (.getfield 98, 3) := by decide +kernel
theorem dX13_whyTurn_51 : decode cX13_whyTurn 51 = .ok (.bipush 125, 2) := by decide +kernel
theorem dX13_whyTurn_53 : decode cX13_whyTurn 53 = .ok (.iload_n 2, 1) := by decide +kernel
theorem dX13_whyTurn_54 : decode cX13_whyTurn 54 = .ok (.iadd, 1) := by decide +kernel
theorem dX13_whyTurn_55 : decode cX13_whyTurn 55 = .ok (.iaload, 1) := by decide +kernel
theorem dX13_whyTurn_56 : decode cX13_whyTurn 56 = .ok (.aload_n 0, 1) := by decide +kernel
theorem dX13_whyTurn_57 : decode cX13_whyTurn 57 = .ok (.getfield 98, 3) := by decide +kernel
theorem dX13_whyTurn_60 : decode cX13_whyTurn 60 = .ok (.bipush 64, 2) := by decide +kernel
theorem dX13_whyTurn_62 : decode cX13_whyTurn 62 = .ok (.iload_n 2, 1) := by decide +kernel
theorem dX13_whyTurn_63 : decode cX13_whyTurn 63 = .ok (.iadd, 1) := by decide +kernel
theorem dX13_whyTurn_64 : decode cX13_whyTurn 64 = .ok (.iaload, 1) := by decide +kernel
theorem dX13_whyTurn_65 : decode cX13_whyTurn 65 = .ok (.if_icmp .ne 7, 3) := by decide +kernel
theorem dX13_whyTurn_68 : decode cX13_whyTurn 68 = .ok (.iconst 4, 1) := by decide +kernel
theorem dX13_whyTurn_69 : decode cX13_whyTurn 69 = .ok (.goto 4, 3) := by decide +kernel
theorem dX13_whyTurn_72 : decode cX13_whyTurn 72 = .ok (.iconst 0, 1) := by decide +kernel
theorem dX13_whyTurn_73 : decode cX13_whyTurn 73 = .ok (.ireturn, 1) := by decide +kernel
theorem dX13_doTurn_0 : decode cX13_doTurn 0 = .ok (.aload_n 0, 1) := by decide +kernel
theorem dX13_doTurn_1 : decode cX13_doTurn 1 = .ok (.getfield 98, 3) := by decide +kernel
theorem dX13_doTurn_4 : decode cX13_doTurn 4 = .ok (.bipush 48, 2) := by decide +kernel
theorem dX13_doTurn_6 : decode cX13_doTurn 6 = .ok (.iload_n 1, 1) := by decide +kernel
theorem dX13_doTurn_7 : decode cX13_doTurn 7 = .ok (.iadd, 1) := by decide +kernel
theorem dX13_doTurn_8 : decode cX13_doTurn 8 = .ok (.iaload, 1) := by decide +kernel
theorem dX13_doTurn_9 : decode cX13_doTurn 9 = .ok (.istore_n 2, 1) := by decide +kernel
theorem dX13_doTurn_10 : decode cX13_doTurn 10 = .ok (.aload_n 0, 1) := by decide +kernel
theorem dX13_doTurn_11 : decode cX13_doTurn 11 = .ok (.getfield 98, 3) := by decide +kernel
theorem dX13_doTurn_14 : decode cX13_doTurn 14 = .ok (.bipush 125, 2) := by decide +kernel
theorem dX13_doTurn_16 : decode cX13_doTurn 16 = .ok (.iload_n 2, 1) := by decide +kernel
theorem dX13_doTurn_17 : decode cX13_doTurn 17 = .ok (.iadd, 1) := by decide +kernel
theorem dX13_doTurn_18 : decode cX13_doTurn 18 = .ok (.aload_n 0, 1) := by decide +kernel
theorem dX13_doTurn_19 : decode cX13_doTurn 19 = .ok (.getfield 98, 3) := by decide +kernel
theorem dX13_doTurn_22 : decode cX13_doTurn 22 = .ok (.bipush 64, 2) := by decide +kernel
theorem dX13_doTurn_24 : decode cX13_doTurn 24 = .ok (.iload_n 2, 1) := by decide +kernel
theorem dX13_doTurn_25 : decode cX13_doTurn 25 = .ok (.iadd, 1) := by decide +kernel
theorem dX13_doTurn_26 : decode cX13_doTurn 26 = .ok (.iaload, 1) := by decide +kernel
theorem dX13_doTurn_27 : decode cX13_doTurn 27 = .ok (.aload_n 0, 1) := by decide +kernel
theorem dX13_doTurn_28 : decode cX13_doTurn 28 = .ok (.getfield 98, 3) := by decide +kernel
theorem dX13_doTurn_31 : decode cX13_doTurn 31 = .ok (.bipush 125, 2) := by decide +kernel
theorem dX13_doTurn_33 : decode cX13_doTurn 33 = .ok (.iload_n 2, 1) := by decide +kernel
theorem dX13_doTurn_34 : decode cX13_doTurn 34 = .ok (.iadd, 1) := by decide +kernel
theorem dX13_doTurn_35 : decode cX13_doTurn 35 = .ok (.iaload, 1) := by decide +kernel
theorem dX13_doTurn_36 : decode cX13_doTurn 36 = .ok (.isub, 1) := by decide +kernel
theorem dX13_doTurn_37 : decode cX13_doTurn 37 = .ok (.iastore, 1) := by decide +kernel
theorem dX13_doTurn_38 : decode cX13_doTurn 38 = .ok (.aload_n 0, 1) := by decide +kernel
theorem dX13_doTurn_39 : decode cX13_doTurn 39 = .ok (.getfield 98, 3) := by decide +kernel
theorem dX13_doTurn_42 : decode cX13_doTurn 42 = .ok (.sipush 133, 3) := by decide +kernel
theorem dX13_doTurn_45 : decode cX13_doTurn 45 = .ok (.iload_n 2, 1) := by decide +kernel
theorem dX13_doTurn_46 : decode cX13_doTurn 46 = .ok (.iadd, 1) := by decide +kernel
theorem dX13_doTurn_47 : decode cX13_doTurn 47 = .ok (.iconst 0, 1) := by decide +kernel
theorem dX13_doTurn_48 : decode cX13_doTurn 48 = .ok (.iastore, 1) := by decide +kernel
theorem dX13_doTurn_49 : decode cX13_doTurn 49 = .ok (.aload_n 0, 1) := by decide +kernel
theorem dX13_doTurn_50 : decode cX13_doTurn 50 = .ok (.getfield 98, 3) := by decide +kernel
theorem dX13_doTurn_53 : decode cX13_doTurn 53 = .ok (.sipush 137, 3) := by decide +kernel
theorem dX13_doTurn_56 : decode cX13_doTurn 56 = .ok (.iload_n 2, 1) := by decide +kernel
theorem dX13_doTurn_57 : decode cX13_doTurn 57 = .ok (.iadd, 1) := by decide +kernel
theorem dX13_doTurn_58 : decode cX13_doTurn 58 = .ok (.dup2, 1) := by decide +kernel
theorem dX13_doTurn_59 : decode cX13_doTurn 59 = .ok (.iaload, 1) := by decide +kernel
theorem dX13_doTurn_60 : decode cX13_doTurn 60 = .ok (.iconst 1, 1) := by decide +kernel
theorem dX13_doTurn_61 : decode cX13_doTurn 61 = .ok (.iadd, 1) := by decide +kernel
theorem dX13_doTurn_62 : decode cX13_doTurn 62 = .ok (.iastore, 1) := by decide +kernel
theorem dX13_doTurn_63 : decode cX13_doTurn 63 = .ok (.aload_n 0, 1) := by decide +kernel
theorem dX13_doTurn_64 : decode cX13_doTurn 64 = .ok (.getfield 98, 3) := by decide +kernel
theorem dX13_doTurn_67 : decode cX13_doTurn 67 = .ok (.bipush 113, 2) := by decide +kernel
theorem dX13_doTurn_69 : decode cX13_doTurn 69 = .ok (.iload_n 1, 1) := by decide +kernel
theorem dX13_doTurn_70 : decode cX13_doTurn 70 = .ok (.iadd, 1) := by decide +kernel
theorem dX13_doTurn_71 : decode cX13_doTurn 71 = .ok (.dup2, 1) := by decide +kernel
theorem dX13_doTurn_72 : decode cX13_doTurn 72 = .ok (.iaload, 1) := by decide +kernel
theorem dX13_doTurn_73 : decode cX13_doTurn 73 = .ok (.iconst 1, 1) := by decide +kernel
theorem dX13_doTurn_74 : decode cX13_doTurn 74 = .ok (.iadd, 1) := by decide +kernel
theorem dX13_doTurn_75 : decode cX13_doTurn 75 = .ok (.iastore, 1) := by decide +kernel
theorem dX13_doTurn_76 : decode cX13_doTurn 76 = .ok (.return_, 1) := by decide +kernel
theorem dX13_doWoo_0 : decode cX13_doWoo 0 = .ok (.aload_n 0, 1) := by decide +kernel
theorem dX13_doWoo_1 : decode cX13_doWoo 1 = .ok (.iload_n 1, 1) := by decide +kernel
theorem dX13_doWoo_2 : decode cX13_doWoo 2 = .ok (.invokevirtual 252, 3) := by decide +kernel
theorem dX13_doWoo_5 : decode cX13_doWoo 5 = .ok (.istore_n 3, 1) := by decide +kernel
theorem dX13_doWoo_6 : decode cX13_doWoo 6 = .ok (.aload_n 0, 1) := by decide +kernel
theorem dX13_doWoo_7 : decode cX13_doWoo 7 = .ok (.getfield 98, 3) := by decide +kernel
theorem dX13_doWoo_10 : decode cX13_doWoo 10 = .ok (.bipush 105, 2) := by decide +kernel
theorem dX13_doWoo_12 : decode cX13_doWoo 12 = .ok (.iload_n 3, 1) := by decide +kernel
theorem dX13_doWoo_13 : decode cX13_doWoo 13 = .ok (.iadd, 1) := by decide +kernel
theorem dX13_doWoo_14 : decode cX13_doWoo 14 = .ok (.bipush 99, 2) := by decide +kernel
theorem dX13_doWoo_16 : decode cX13_doWoo 16 = .ok (.aload_n 0, 1) := by decide +kernel
theorem dX13_doWoo_17 : decode cX13_doWoo 17 = .ok (.getfield 98, 3) := by decide +kernel
theorem dX13_doWoo_20 : decode cX13_doWoo 20 = .ok (.bipush 105, 2) := by decide +kernel
theorem dX13_doWoo_22 : decode cX13_doWoo 22 = .ok (.iload_n 3, 1) := by decide +kernel
theorem dX13_doWoo_23 : decode cX13_doWoo 23 = .ok (.iadd, 1) := by decide +kernel
theorem dX13_doWoo_24 : decode cX13_doWoo 24 = .ok (.iaload, 1) := by decide +kernel
theorem dX13_doWoo_25 : decode cX13_doWoo 25 = .ok (.iload_n 2, 1) := by decide +kernel
theorem dX13_doWoo_26 : decode cX13_doWoo 26 = .ok (.iadd, 1) := by decide +kernel
theorem dX13_doWoo_27 : decode cX13_doWoo 27 = .ok (.invokestatic 227, 3) := by decide +kernel
theorem dX13_doWoo_30 : decode cX13_doWoo 30 = .ok (.iastore, 1) := by decide +kernel
theorem dX13_doWoo_31 : decode cX13_doWoo 31 = .ok (.return_, 1) := by decide +kernel
theorem dX13_whyTilt_0 : decode cX13_whyTilt 0 = .ok (.aload_n 0, 1) := by decide +kernel
theorem dX13_whyTilt_1 : decode cX13_whyTilt 1 = .ok (.iload_n 1, 1) := by decide +kernel
theorem dX13_whyTilt_2 : decode cX13_whyTilt 2 = .ok (.invokevirtual 261, 3) := by decide +kernel
theorem dX13_whyTilt_5 : decode cX13_whyTilt 5 = .ok (.ifCond .eq 7, 3) := by decide +kernel
theorem dX13_whyTilt_8 : decode cX13_whyTilt 8 = .ok (.iconst 1, 1) := by decide +kernel
theorem dX13_whyTilt_9 : decode cX13_whyTilt 9 = .ok (.goto 41, 3) := by decide +kernel
theorem dX13_whyTilt_12 : decode cX13_whyTilt 12 = .ok (.aload_n 0, 1) := by decide +kernel
theorem dX13_whyTilt_13 : decode cX13_whyTilt 13 = .ok (.getfield 98, 3) := by decide +kernel
theorem dX13_whyTilt_16 : decode cX13_whyTilt 16 = .ok (.sipush 129, 3) := by decide +kernel
theorem dX13_whyTilt_19 : decode cX13_whyTilt 19 = .ok (.iload_n 1, 1) := by decide +kernel
theorem dX13_whyTilt_20 : decode cX13_whyTilt 20 = .ok (.iadd, 1) := by decide +kernel
theorem dX13_whyTilt_21 : decode cX13_whyTilt 21 = .ok (.iaload, 1) := by decide +kernel
theorem dX13_whyTilt_22 : decode cX13_whyTilt 22 = .ok (.iload_n 2, 1) := by decide +kernel
theorem dX13_whyTilt_23 : decode cX13_whyTilt 23 = .ok (.if_icmp .ne 7, 3) := by decide +kernel
theorem dX13_whyTilt_26 : decode cX13_whyTilt 26 = .ok (.iconst 2, 1) := by decide +kernel
theorem dX13_whyTilt_27 : decode cX13_whyTilt 27 = .ok (.goto 23, 3) := by decide +kernel
theorem dX13_whyTilt_30 : decode cX13_whyTilt 30 = .ok (.iload_n 2, 1) := by decide +kernel
theorem dX13_whyTilt_31 : decode cX13_whyTilt 31 = .ok (.iconst 2, 1) := by decide +kernel
theorem dX13_whyTilt_32 : decode cX13_whyTilt 32 = .ok (.if_icmp .ne 17, 3) := by decide +kernel
theorem dX13_whyTilt_35 : decode cX13_whyTilt 35 = .ok (.aload_n 0, 1) := by decide +kernel
theorem dX13_whyTilt_36 : decode cX13_whyTilt 36 = .ok (.getfield 98, 3) := by decide +kernel
theorem dX13_whyTilt_39 : decode cX13_whyTilt 39 = .ok (.bipush 6, 2) := by decide +kernel
theorem dX13_whyTilt_41 : decode cX13_whyTilt 41 = .ok (.iaload, 1) := by decide +kernel
theorem dX13_whyTilt_42 : decode cX13_whyTilt 42 = .ok (.ifCond .ne 7, 3) := by decide +kernel
theorem dX13_whyTilt_45 : decode cX13_whyTilt 45 = .ok (.iconst 3, 1) := by decide +kernel
theorem dX13_whyTilt_46 : decode cX13_whyTilt 46 = .ok (.goto 4, 3) := by decide +kernel
theorem dX13_whyTilt_49 : decode cX13_whyTilt 49 = .ok (.iconst 0, 1) := by decide +kernel
theorem dX13_whyTilt_50 : decode cX13_whyTilt 50 = .ok (.ireturn, 1) := by decide +kernel
theorem dX13_whyWiden_0 : decode cX13_whyWiden 0 = .ok (.aload_n 0, 1) := by decide +kernel
theorem dX13_whyWiden_1 : decode cX13_whyWiden 1 = .ok (.iload_n 1, 1) := by decide +kernel
theorem dX13_whyWiden_2 : decode cX13_whyWiden 2 = .ok (.invokevirtual 261, 3) := by decide +kernel
theorem dX13_whyWiden_5 : decode cX13_whyWiden 5 = .ok (.ifCond .eq 7, 3) := by decide +kernel
theorem dX13_whyWiden_8 : decode cX13_whyWiden 8 = .ok (.iconst 1, 1) := by decide +kernel
theorem dX13_whyWiden_9 : decode cX13_whyWiden 9 = .ok (.goto 24, 3) := by decide +kernel
theorem dX13_whyWiden_12 : decode cX13_whyWiden 12 = .ok (.aload_n 0, 1) := by decide +kernel
theorem dX13_whyWiden_13 : decode cX13_whyWiden 13 = .ok (.getfield 98, 3) := by decide +kernel
theorem dX13_whyWiden_16 : decode cX13_whyWiden 16 = .ok (.bipush 121, 2) := by decide +kernel
theorem dX13_whyWiden_18 : decode cX13_whyWiden 18 = .ok (.iload_n 1, 1) := by decide +kernel
theorem dX13_whyWiden_19 : decode cX13_whyWiden 19 = .ok (.iadd, 1) := by decide +kernel
theorem dX13_whyWiden_20 : decode cX13_whyWiden 20 = .ok (.iaload, 1) := by decide +kernel
theorem dX13_whyWiden_21 : decode cX13_whyWiden 21 = .ok (.iload_n 2, 1) := by decide +kernel
theorem dX13_whyWiden_22 : decode cX13_whyWiden 22 = .ok (.iadd, 1) := by decide +kernel
theorem dX13_whyWiden_23 : decode cX13_whyWiden 23 = .ok (.bipush 9, 2) := by decide +kernel
theorem dX13_whyWiden_25 : decode cX13_whyWiden 25 = .ok (.if_icmp .le 7, 3) := by decide +kernel
theorem dX13_whyWiden_28 : decode cX13_whyWiden 28 = .ok (.iconst 2, 1) := by decide +kernel
theorem dX13_whyWiden_29 : decode cX13_whyWiden 29 = .ok (.goto 4, 3) := by decide +kernel
theorem dX13_whyWiden_32 : decode cX13_whyWiden 32 = .ok (.iconst 0, 1) := by decide +kernel
theorem dX13_whyWiden_33 : decode cX13_whyWiden 33 = .ok (.ireturn, 1) := by decide +kernel
theorem dX13_whySpill_0 : decode cX13_whySpill 0 = .ok (.aload_n 0, 1) := by decide +kernel
theorem dX13_whySpill_1 : decode cX13_whySpill 1 = .ok (.iload_n 1, 1) := by decide +kernel
theorem dX13_whySpill_2 : decode cX13_whySpill 2 = .ok (.invokevirtual 261, 3) := by decide +kernel
theorem dX13_whySpill_5 : decode cX13_whySpill 5 = .ok (.ifCond .eq 7, 3) := by decide +kernel
theorem dX13_whySpill_8 : decode cX13_whySpill 8 = .ok (.iconst 1, 1) := by decide +kernel
theorem dX13_whySpill_9 : decode cX13_whySpill 9 = .ok (.goto 21, 3) := by decide +kernel
theorem dX13_whySpill_12 : decode cX13_whySpill 12 = .ok (.aload_n 0, 1) := by decide +kernel
theorem dX13_whySpill_13 : decode cX13_whySpill 13 = .ok (.getfield 98, 3) := by decide +kernel
theorem dX13_whySpill_16 : decode cX13_whySpill 16 = .ok (.bipush 125, 2) := by decide +kernel
theorem dX13_whySpill_18 : decode cX13_whySpill 18 = .ok (.iload_n 1, 1) := by decide +kernel
theorem dX13_whySpill_19 : decode cX13_whySpill 19 = .ok (.iadd, 1) := by decide +kernel
theorem dX13_whySpill_20 : decode cX13_whySpill 20 = .ok (.iaload, 1) := by decide +kernel
theorem dX13_whySpill_21 : decode cX13_whySpill 21 = .ok (.iload_n 2, 1) := by decide +kernel
theorem dX13_whySpill_22 : decode cX13_whySpill 22 = .ok (.if_icmp .ge 7, 3) := by decide +kernel
theorem dX13_whySpill_25 : decode cX13_whySpill 25 = .ok (.iconst 2, 1) := by decide +kernel
theorem dX13_whySpill_26 : decode cX13_whySpill 26 = .ok (.goto 4, 3) := by decide +kernel
theorem dX13_whySpill_29 : decode cX13_whySpill 29 = .ok (.iconst 0, 1) := by decide +kernel
theorem dX13_whySpill_30 : decode cX13_whySpill 30 = .ok (.ireturn, 1) := by decide +kernel
theorem dX13_why_0 : decode cX13_why 0 = .ok (.iload_n 1, 1) := by decide +kernel
theorem dX13_why_1 : decode cX13_why 1 = .ok (.tableswitch 82 0 4 #[35, 41, 62, 68, 75], 35) := by decide +kernel
theorem dX13_why_36 : decode cX13_why 36 = .ok (.aload_n 0, 1) := by decide +kernel
theorem dX13_why_37 : decode cX13_why 37 = .ok (.iload_n 2, 1) := by decide +kernel
theorem dX13_why_38 : decode cX13_why 38 = .ok (.invokevirtual 270, 3) := by decide +kernel
theorem dX13_why_41 : decode cX13_why 41 = .ok (.ireturn, 1) := by decide +kernel
theorem dX13_why_42 : decode cX13_why 42 = .ok (.aload_n 0, 1) := by decide +kernel
theorem dX13_why_43 : decode cX13_why 43 = .ok (.iload_n 2, 1) := by decide +kernel
theorem dX13_why_44 : decode cX13_why 44 = .ok (.aload_n 0, 1) := by decide +kernel
theorem dX13_why_45 : decode cX13_why 45 = .ok (.getfield 98, 3) := by decide +kernel
theorem dX13_why_48 : decode cX13_why 48 = .ok (.bipush 102, 2) := by decide +kernel
theorem dX13_why_50 : decode cX13_why 50 = .ok (.iaload, 1) := by decide +kernel
theorem dX13_why_51 : decode cX13_why 51 = .ok (.invokevirtual 234, 3) := by decide +kernel
theorem dX13_why_54 : decode cX13_why 54 = .ok (.ifCond .eq 7, 3) := by decide +kernel
theorem dX13_why_57 : decode cX13_why 57 = .ok (.iconst 1, 1) := by decide +kernel
theorem dX13_why_58 : decode cX13_why 58 = .ok (.goto 4, 3) := by decide +kernel
theorem dX13_why_61 : decode cX13_why 61 = .ok (.iconst 0, 1) := by decide +kernel
theorem dX13_why_62 : decode cX13_why 62 = .ok (.ireturn, 1) := by decide +kernel
theorem dX13_why_63 : decode cX13_why 63 = .ok (.aload_n 0, 1) := by decide +kernel
theorem dX13_why_64 : decode cX13_why 64 = .ok (.iload_n 2, 1) := by decide +kernel
theorem dX13_why_65 : decode cX13_why 65 = .ok (.invokevirtual 267, 3) := by decide +kernel
theorem dX13_why_68 : decode cX13_why 68 = .ok (.ireturn, 1) := by decide +kernel
theorem dX13_why_69 : decode cX13_why 69 = .ok (.aload_n 0, 1) := by decide +kernel
theorem dX13_why_70 : decode cX13_why 70 = .ok (.iload_n 2, 1) := by decide +kernel
theorem dX13_why_71 : decode cX13_why 71 = .ok (.iload_n 3, 1) := by decide +kernel
theorem dX13_why_72 : decode cX13_why 72 = .ok (.invokevirtual 273, 3) := by decide +kernel
theorem dX13_why_75 : decode cX13_why 75 = .ok (.ireturn, 1) := by decide +kernel
theorem dX13_why_76 : decode cX13_why 76 = .ok (.aload_n 0, 1) := by decide +kernel
theorem dX13_why_77 : decode cX13_why 77 = .ok (.iload_n 2, 1) := by decide +kernel
theorem dX13_why_78 : decode cX13_why 78 = .ok (.iload_n 3, 1) := by decide +kernel
theorem dX13_why_79 : decode cX13_why 79 = .ok (.invokevirtual 276, 3) := by decide +kernel
theorem dX13_why_82 : decode cX13_why 82 = .ok (.ireturn, 1) := by decide +kernel
theorem dX13_why_83 : decode cX13_why 83 = .ok (.aload_n 0, 1) := by decide +kernel
theorem dX13_why_84 : decode cX13_why 84 = .ok (.iload_n 2, 1) := by decide +kernel
theorem dX13_why_85 : decode cX13_why 85 = .ok (.iload_n 3, 1) := by decide +kernel
theorem dX13_why_86 : decode cX13_why 86 = .ok (.invokevirtual 279, 3) := by decide +kernel
theorem dX13_why_89 : decode cX13_why 89 = .ok (.ireturn, 1) := by decide +kernel
theorem dX13_live_0 : decode cX13_live 0 = .ok (.iload_n 1, 1) := by decide +kernel
theorem dX13_live_1 : decode cX13_live 1 = .ok (.tableswitch 88 0 4 #[35, 41, 55, 62, 74], 35) := by decide +kernel
theorem dX13_live_36 : decode cX13_live 36 = .ok (.aload_n 0, 1) := by decide +kernel
theorem dX13_live_37 : decode cX13_live 37 = .ok (.iload_n 2, 1) := by decide +kernel
theorem dX13_live_38 : decode cX13_live 38 = .ok (.invokevirtual 282, 3) := by decide +kernel
theorem dX13_live_41 : decode cX13_live 41 = .ok (.return_, 1) := by decide +kernel
theorem dX13_live_42 : decode cX13_live 42 = .ok (.aload_n 0, 1) := by decide +kernel
theorem dX13_live_43 : decode cX13_live 43 = .ok (.getfield 98, 3) := by decide +kernel
theorem dX13_live_46 : decode cX13_live 46 = .ok (.bipush 103, 2) := by decide +kernel
theorem dX13_live_48 : decode cX13_live 48 = .ok (.dup2, 1) := by decide +kernel
theorem dX13_live_49 : decode cX13_live 49 = .ok (.iaload, 1) := by decide +kernel
theorem dX13_live_50 : decode cX13_live 50 = .ok (.iconst 1, 1) := by decide +kernel
theorem dX13_live_51 : decode cX13_live 51 = .ok (.iload_n 2, 1) := by decide +kernel
theorem dX13_live_52 : decode cX13_live 52 = .ok (.ishl, 1) := by decide +kernel
theorem dX13_live_53 : decode cX13_live 53 = .ok (.ior, 1) := by decide +kernel
theorem dX13_live_54 : decode cX13_live 54 = .ok (.iastore, 1) := by decide +kernel
theorem dX13_live_55 : decode cX13_live 55 = .ok (.return_, 1) := by decide +kernel
theorem dX13_live_56 : decode cX13_live 56 = .ok (.aload_n 0, 1) := by decide +kernel
theorem dX13_live_57 : decode cX13_live 57 = .ok (.iload_n 2, 1) := by decide +kernel
theorem dX13_live_58 : decode cX13_live 58 = .ok (.iload_n 3, 1) := by decide +kernel
theorem dX13_live_59 : decode cX13_live 59 = .ok (.invokevirtual 285, 3) := by decide +kernel
theorem dX13_live_62 : decode cX13_live 62 = .ok (.return_, 1) := by decide +kernel
theorem dX13_live_63 : decode cX13_live 63 = .ok (.aload_n 0, 1) := by decide +kernel
theorem dX13_live_64 : decode cX13_live 64 = .ok (.getfield 98, 3) := by decide +kernel
theorem dX13_live_67 : decode cX13_live 67 = .ok (.sipush 129, 3) := by decide +kernel
theorem dX13_live_70 : decode cX13_live 70 = .ok (.iload_n 2, 1) := by decide +kernel
theorem dX13_live_71 : decode cX13_live 71 = .ok (.iadd, 1) := by decide +kernel
theorem dX13_live_72 : decode cX13_live 72 = .ok (.iload_n 3, 1) := by decide +kernel
theorem dX13_live_73 : decode cX13_live 73 = .ok (.iastore, 1) := by decide +kernel
theorem dX13_live_74 : decode cX13_live 74 = .ok (.return_, 1) := by decide +kernel
theorem dX13_live_75 : decode cX13_live 75 = .ok (.aload_n 0, 1) := by decide +kernel
theorem dX13_live_76 : decode cX13_live 76 = .ok (.getfield 98, 3) := by decide +kernel
theorem dX13_live_79 : decode cX13_live 79 = .ok (.bipush 121, 2) := by decide +kernel
theorem dX13_live_81 : decode cX13_live 81 = .ok (.iload_n 2, 1) := by decide +kernel
theorem dX13_live_82 : decode cX13_live 82 = .ok (.iadd, 1) := by decide +kernel
theorem dX13_live_83 : decode cX13_live 83 = .ok (.dup2, 1) := by decide +kernel
theorem dX13_live_84 : decode cX13_live 84 = .ok (.iaload, 1) := by decide +kernel
theorem dX13_live_85 : decode cX13_live 85 = .ok (.iload_n 3, 1) := by decide +kernel
theorem dX13_live_86 : decode cX13_live 86 = .ok (.iadd, 1) := by decide +kernel
theorem dX13_live_87 : decode cX13_live 87 = .ok (.iastore, 1) := by decide +kernel
theorem dX13_live_88 : decode cX13_live 88 = .ok (.return_, 1) := by decide +kernel
theorem dX13_live_89 : decode cX13_live 89 = .ok (.aload_n 0, 1) := by decide +kernel
theorem dX13_live_90 : decode cX13_live 90 = .ok (.getfield 98, 3) := by decide +kernel
theorem dX13_live_93 : decode cX13_live 93 = .ok (.bipush 125, 2) := by decide +kernel
theorem dX13_live_95 : decode cX13_live 95 = .ok (.iload_n 2, 1) := by decide +kernel
theorem dX13_live_96 : decode cX13_live 96 = .ok (.iadd, 1) := by decide +kernel
theorem dX13_live_97 : decode cX13_live 97 = .ok (.dup2, 1) := by decide +kernel
theorem dX13_live_98 : decode cX13_live 98 = .ok (.iaload, 1) := by decide +kernel
theorem dX13_live_99 : decode cX13_live 99 = .ok (.iload_n 3, 1) := by decide +kernel
theorem dX13_live_100 : decode cX13_live 100 = .ok (.isub, 1) := by decide +kernel
theorem dX13_live_101 : decode cX13_live 101 = .ok (.iastore, 1) := by decide +kernel
theorem dX13_live_102 : decode cX13_live 102 = .ok (.return_, 1) := by decide +kernel
theorem dX13_act_0 : decode cX13_act 0 = .ok (.aload_n 0, 1) := by decide +kernel
theorem dX13_act_1 : decode cX13_act 1 = .ok (.iload_n 1, 1) := by decide +kernel
theorem dX13_act_2 : decode cX13_act 2 = .ok (.iload_n 2, 1) := by decide +kernel
theorem dX13_act_3 : decode cX13_act 3 = .ok (.iload_n 3, 1) := by decide +kernel
theorem dX13_act_4 : decode cX13_act 4 = .ok (.invokevirtual 289, 3) := by decide +kernel
theorem dX13_act_7 : decode cX13_act 7 = .ok (.istore 4, 2) := by decide +kernel
theorem dX13_act_9 : decode cX13_act 9 = .ok (.iload 4, 2) := by decide +kernel
theorem dX13_act_11 : decode cX13_act 11 = .ok (.ifCond .eq 6, 3) := by decide +kernel
theorem dX13_act_14 : decode cX13_act 14 = .ok (.iload 4, 2) := by decide +kernel
theorem dX13_act_16 : decode cX13_act 16 = .ok (.ireturn, 1) := by decide +kernel
theorem dX13_act_17 : decode cX13_act 17 = .ok (.aload_n 0, 1) := by decide +kernel
theorem dX13_act_18 : decode cX13_act 18 = .ok (.invokevirtual 293, 3) := by decide +kernel
theorem dX13_act_21 : decode cX13_act 21 = .ok (.aload_n 0, 1) := by decide +kernel
theorem dX13_act_22 : decode cX13_act 22 = .ok (.iload_n 1, 1) := by decide +kernel
theorem dX13_act_23 : decode cX13_act 23 = .ok (.iload_n 2, 1) := by decide +kernel
theorem dX13_act_24 : decode cX13_act 24 = .ok (.iload_n 3, 1) := by decide +kernel
theorem dX13_act_25 : decode cX13_act 25 = .ok (.invokevirtual 296, 3) := by decide +kernel
theorem dX13_act_28 : decode cX13_act 28 = .ok (.iconst 0, 1) := by decide +kernel
theorem dX13_act_29 : decode cX13_act 29 = .ok (.ireturn, 1) := by decide +kernel
theorem dX13_turn_0 : decode cX13_turn 0 = .ok (.aload_n 0, 1) := by decide +kernel
theorem dX13_turn_1 : decode cX13_turn 1 = .ok (.iconst 0, 1) := by decide +kernel
theorem dX13_turn_2 : decode cX13_turn 2 = .ok (.putfield 1, 3) := by decide +kernel
theorem dX13_turn_5 : decode cX13_turn 5 = .ok (.aload_n 0, 1) := by decide +kernel
theorem dX13_turn_6 : decode cX13_turn 6 = .ok (.iload_n 1, 1) := by decide +kernel
theorem dX13_turn_7 : decode cX13_turn 7 = .ok (.invokevirtual 246, 3) := by decide +kernel
theorem dX13_turn_10 : decode cX13_turn 10 = .ok (.ifCond .eq 13, 3) := by decide +kernel
theorem dX13_turn_13 : decode cX13_turn 13 = .ok (.aload_n 0, 1) := by decide +kernel
theorem dX13_turn_14 : decode cX13_turn 14 = .ok (.iconst 0, 1) := by decide +kernel
theorem dX13_turn_15 : decode cX13_turn 15 = .ok (.iload_n 1, 1) := by decide +kernel
theorem dX13_turn_16 : decode cX13_turn 16 = .ok (.iconst 0, 1) := by decide +kernel
theorem dX13_turn_17 : decode cX13_turn 17 = .ok (.invokevirtual 300, 3) := by decide +kernel
theorem dX13_turn_20 : decode cX13_turn 20 = .ok (.goto 4, 3) := by decide +kernel
theorem dX13_turn_23 : decode cX13_turn 23 = .ok (.iconst (-1), 1) := by decide +kernel
theorem dX13_turn_24 : decode cX13_turn 24 = .ok (.ireturn, 1) := by decide +kernel
theorem dX13_wake_0 : decode cX13_wake 0 = .ok (.aload_n 0, 1) := by decide +kernel
theorem dX13_wake_1 : decode cX13_wake 1 = .ok (.iconst 0, 1) := by decide +kernel
theorem dX13_wake_2 : decode cX13_wake 2 = .ok (.putfield 1, 3) := by decide +kernel
theorem dX13_wake_5 : decode cX13_wake 5 = .ok (.aload_n 0, 1) := by decide +kernel
theorem dX13_wake_6 : decode cX13_wake 6 = .ok (.iload_n 1, 1) := by decide +kernel
theorem dX13_wake_7 : decode cX13_wake 7 = .ok (.invokevirtual 246, 3) := by decide +kernel
theorem dX13_wake_10 : decode cX13_wake 10 = .ok (.ifCond .eq 13, 3) := by decide +kernel
theorem dX13_wake_13 : decode cX13_wake 13 = .ok (.aload_n 0, 1) := by decide +kernel
theorem dX13_wake_14 : decode cX13_wake 14 = .ok (.iconst 1, 1) := by decide +kernel
theorem dX13_wake_15 : decode cX13_wake 15 = .ok (.iload_n 1, 1) := by decide +kernel
theorem dX13_wake_16 : decode cX13_wake 16 = .ok (.iconst 0, 1) := by decide +kernel
theorem dX13_wake_17 : decode cX13_wake 17 = .ok (.invokevirtual 300, 3) := by decide +kernel
theorem dX13_wake_20 : decode cX13_wake 20 = .ok (.goto 4, 3) := by decide +kernel
theorem dX13_wake_23 : decode cX13_wake 23 = .ok (.iconst (-1), 1) := by decide +kernel
theorem dX13_wake_24 : decode cX13_wake 24 = .ok (.ireturn, 1) := by decide +kernel
theorem dX13_woo_0 : decode cX13_woo 0 = .ok (.aload_n 0, 1) := by decide +kernel
theorem dX13_woo_1 : decode cX13_woo 1 = .ok (.iconst 0, 1) := by decide +kernel
theorem dX13_woo_2 : decode cX13_woo 2 = .ok (.putfield 1, 3) := by decide +kernel
theorem dX13_woo_5 : decode cX13_woo 5 = .ok (.aload_n 0, 1) := by decide +kernel
theorem dX13_woo_6 : decode cX13_woo 6 = .ok (.iload_n 1, 1) := by decide +kernel
theorem dX13_woo_7 : decode cX13_woo 7 = .ok (.invokevirtual 246, 3) := by decide +kernel
theorem dX13_woo_10 : decode cX13_woo 10 = .ok (.ifCond .eq 23, 3) := by decide +kernel
theorem dX13_woo_13 : decode cX13_woo 13 = .ok (.iload_n 2, 1) := by decide +kernel
theorem dX13_woo_14 : decode cX13_woo 14 = .ok (.iconst 1, 1) := by decide +kernel
theorem dX13_woo_15 : decode cX13_woo 15 = .ok (.bipush 20, 2) := by decide +kernel
theorem dX13_woo_17 : decode cX13_woo 17 = .ok (.invokestatic 75, 3) := by decide +kernel
theorem dX13_woo_20 : decode cX13_woo 20 = .ok (.ifCond .eq 13, 3) := by decide +kernel
theorem dX13_woo_23 : decode cX13_woo 23 = .ok (.aload_n 0, 1) := by decide +kernel
theorem dX13_woo_24 : decode cX13_woo 24 = .ok (.iconst 2, 1) := by decide +kernel
theorem dX13_woo_25 : decode cX13_woo 25 = .ok (.iload_n 1, 1) := by decide +kernel
theorem dX13_woo_26 : decode cX13_woo 26 = .ok (.iload_n 2, 1) := by decide +kernel
theorem dX13_woo_27 : decode cX13_woo 27 = .ok (.invokevirtual 300, 3) := by decide +kernel
theorem dX13_woo_30 : decode cX13_woo 30 = .ok (.goto 4, 3) := by decide +kernel
theorem dX13_woo_33 : decode cX13_woo 33 = .ok (.iconst (-1), 1) := by decide +kernel
theorem dX13_woo_34 : decode cX13_woo 34 = .ok (.ireturn, 1) := by decide +kernel
theorem dX13_tilt_0 : decode cX13_tilt 0 = .ok (.aload_n 0, 1) := by decide +kernel
theorem dX13_tilt_1 : decode cX13_tilt 1 = .ok (.iconst 0, 1) := by decide +kernel
theorem dX13_tilt_2 : decode cX13_tilt 2 = .ok (.putfield 1, 3) := by decide +kernel
theorem dX13_tilt_5 : decode cX13_tilt 5 = .ok (.aload_n 0, 1) := by decide +kernel
theorem dX13_tilt_6 : decode cX13_tilt 6 = .ok (.iload_n 1, 1) := by decide +kernel
theorem dX13_tilt_7 : decode cX13_tilt 7 = .ok (.invokevirtual 258, 3) := by decide +kernel
theorem dX13_tilt_10 : decode cX13_tilt 10 = .ok (.ifCond .eq 22, 3) := by decide +kernel
theorem dX13_tilt_13 : decode cX13_tilt 13 = .ok (.iload_n 2, 1) := by decide +kernel
theorem dX13_tilt_14 : decode cX13_tilt 14 = .ok (.iconst 0, 1) := by decide +kernel
theorem dX13_tilt_15 : decode cX13_tilt 15 = .ok (.iconst 2, 1) := by decide +kernel
theorem dX13_tilt_16 : decode cX13_tilt 16 = .ok (.invokestatic 75, 3) := by decide +kernel
theorem dX13_tilt_19 : decode cX13_tilt 19 = .ok (.ifCond .eq 13, 3) := by decide +kernel
theorem dX13_tilt_22 : decode cX13_tilt 22 = .ok (.aload_n 0, 1) := by decide +kernel
theorem dX13_tilt_23 : decode cX13_tilt 23 = .ok (.iconst 3, 1) := by decide +kernel
theorem dX13_tilt_24 : decode cX13_tilt 24 = .ok (.iload_n 1, 1) := by decide +kernel
theorem dX13_tilt_25 : decode cX13_tilt 25 = .ok (.iload_n 2, 1) := by decide +kernel
theorem dX13_tilt_26 : decode cX13_tilt 26 = .ok (.invokevirtual 300, 3) := by decide +kernel
theorem dX13_tilt_29 : decode cX13_tilt 29 = .ok (.goto 4, 3) := by decide +kernel
theorem dX13_tilt_32 : decode cX13_tilt 32 = .ok (.iconst (-1), 1) := by decide +kernel
theorem dX13_tilt_33 : decode cX13_tilt 33 = .ok (.ireturn, 1) := by decide +kernel
theorem dX13_widen_0 : decode cX13_widen 0 = .ok (.aload_n 0, 1) := by decide +kernel
theorem dX13_widen_1 : decode cX13_widen 1 = .ok (.iconst 0, 1) := by decide +kernel
theorem dX13_widen_2 : decode cX13_widen 2 = .ok (.putfield 1, 3) := by decide +kernel
theorem dX13_widen_5 : decode cX13_widen 5 = .ok (.aload_n 0, 1) := by decide +kernel
theorem dX13_widen_6 : decode cX13_widen 6 = .ok (.iload_n 1, 1) := by decide +kernel
theorem dX13_widen_7 : decode cX13_widen 7 = .ok (.invokevirtual 258, 3) := by decide +kernel
theorem dX13_widen_10 : decode cX13_widen 10 = .ok (.ifCond .eq 23, 3) := by decide +kernel
theorem dX13_widen_13 : decode cX13_widen 13 = .ok (.iload_n 2, 1) := by decide +kernel
theorem dX13_widen_14 : decode cX13_widen 14 = .ok (.iconst 1, 1) := by decide +kernel
theorem dX13_widen_15 : decode cX13_widen 15 = .ok (.bipush 8, 2) := by decide +kernel
theorem dX13_widen_17 : decode cX13_widen 17 = .ok (.invokestatic 75, 3) := by decide +kernel
theorem dX13_widen_20 : decode cX13_widen 20 = .ok (.ifCond .eq 13, 3) := by decide +kernel
theorem dX13_widen_23 : decode cX13_widen 23 = .ok (.aload_n 0, 1) := by decide +kernel
theorem dX13_widen_24 : decode cX13_widen 24 = .ok (.iconst 4, 1) := by decide +kernel
theorem dX13_widen_25 : decode cX13_widen 25 = .ok (.iload_n 1, 1) := by decide +kernel
theorem dX13_widen_26 : decode cX13_widen 26 = .ok (.iload_n 2, 1) := by decide +kernel
theorem dX13_widen_27 : decode cX13_widen 27 = .ok (.invokevirtual 300, 3) := by decide +kernel
theorem dX13_widen_30 : decode cX13_widen 30 = .ok (.goto 4, 3) := by decide +kernel
theorem dX13_widen_33 : decode cX13_widen 33 = .ok (.iconst (-1), 1) := by decide +kernel
theorem dX13_widen_34 : decode cX13_widen 34 = .ok (.ireturn, 1) := by decide +kernel
theorem dX13_spill_0 : decode cX13_spill 0 = .ok (.aload_n 0, 1) := by decide +kernel
theorem dX13_spill_1 : decode cX13_spill 1 = .ok (.iconst 0, 1) := by decide +kernel
theorem dX13_spill_2 : decode cX13_spill 2 = .ok (.putfield 1, 3) := by decide +kernel
theorem dX13_spill_5 : decode cX13_spill 5 = .ok (.aload_n 0, 1) := by decide +kernel
theorem dX13_spill_6 : decode cX13_spill 6 = .ok (.iload_n 1, 1) := by decide +kernel
theorem dX13_spill_7 : decode cX13_spill 7 = .ok (.invokevirtual 258, 3) := by decide +kernel
theorem dX13_spill_10 : decode cX13_spill 10 = .ok (.ifCond .eq 24, 3) := by decide +kernel
theorem dX13_spill_13 : decode cX13_spill 13 = .ok (.iload_n 2, 1) := by decide +kernel
theorem dX13_spill_14 : decode cX13_spill 14 = .ok (.iconst 1, 1) := by decide +kernel
theorem dX13_spill_15 : decode cX13_spill 15 = .ok (.sipush 250, 3) := by decide +kernel
theorem dX13_spill_18 : decode cX13_spill 18 = .ok (.invokestatic 75, 3) := by decide +kernel
theorem dX13_spill_21 : decode cX13_spill 21 = .ok (.ifCond .eq 13, 3) := by decide +kernel
theorem dX13_spill_24 : decode cX13_spill 24 = .ok (.aload_n 0, 1) := by decide +kernel
theorem dX13_spill_25 : decode cX13_spill 25 = .ok (.iconst 5, 1) := by decide +kernel
theorem dX13_spill_26 : decode cX13_spill 26 = .ok (.iload_n 1, 1) := by decide +kernel
theorem dX13_spill_27 : decode cX13_spill 27 = .ok (.iload_n 2, 1) := by decide +kernel
theorem dX13_spill_28 : decode cX13_spill 28 = .ok (.invokevirtual 300, 3) := by decide +kernel
theorem dX13_spill_31 : decode cX13_spill 31 = .ok (.goto 4, 3) := by decide +kernel
theorem dX13_spill_34 : decode cX13_spill 34 = .ok (.iconst (-1), 1) := by decide +kernel
theorem dX13_spill_35 : decode cX13_spill 35 = .ok (.ireturn, 1) := by decide +kernel
theorem dX13_undo_0 : decode cX13_undo 0 = .ok (.aload_n 0, 1) := by decide +kernel
theorem dX13_undo_1 : decode cX13_undo 1 = .ok (.iconst 0, 1) := by decide +kernel
theorem dX13_undo_2 : decode cX13_undo 2 = .ok (.putfield 1, 3) := by decide +kernel
theorem dX13_undo_5 : decode cX13_undo 5 = .ok (.aload_n 0, 1) := by decide +kernel
theorem dX13_undo_6 : decode cX13_undo 6 = .ok (.getfield 221, 3) := by decide +kernel
theorem dX13_undo_9 : decode cX13_undo 9 = .ok (.ifCond .ne 5, 3) := by decide +kernel
theorem dX13_undo_12 : decode cX13_undo 12 = .ok (.iconst (-1), 1) := by decide +kernel
theorem dX13_undo_13 : decode cX13_undo 13 = .ok (.ireturn, 1) := by decide +kernel
theorem dX13_undo_14 : decode cX13_undo 14 = .ok (.aload_n 0, 1) := by decide +kernel
theorem dX13_undo_15 : decode cX13_undo 15 = .ok (.dup, 1) := by decide +kernel
theorem dX13_undo_16 : decode cX13_undo 16 = .ok (.getfield 221, 3) := by decide +kernel
theorem dX13_undo_19 : decode cX13_undo 19 = .ok (.iconst 1, 1) := by decide +kernel
theorem dX13_undo_20 : decode cX13_undo 20 = .ok (.isub, 1) := by decide +kernel
theorem dX13_undo_21 : decode cX13_undo 21 = .ok (.putfield 221, 3) := by decide +kernel
theorem dX13_undo_24 : decode cX13_undo 24 = .ok (.iconst 0, 1) := by decide +kernel
theorem dX13_undo_25 : decode cX13_undo 25 = .ok (.istore_n 1, 1) := by decide +kernel
theorem dX13_undo_26 : decode cX13_undo 26 = .ok (.iload_n 1, 1) := by decide +kernel
theorem dX13_undo_27 : decode cX13_undo 27 = .ok (.bipush 39, 2) := by decide +kernel
theorem dX13_undo_29 : decode cX13_undo 29 = .ok (.if_icmp .ge 32, 3) := by decide +kernel
theorem dX13_undo_32 : decode cX13_undo 32 = .ok (.aload_n 0, 1) := by decide +kernel
theorem dX13_undo_33 : decode cX13_undo 33 = .ok (.getfield 98, 3) := by decide +kernel
theorem dX13_undo_36 : decode cX13_undo 36 = .ok (.bipush 102, 2) := by decide +kernel
theorem dX13_undo_38 : decode cX13_undo 38 = .ok (.iload_n 1, 1) := by decide +kernel
theorem dX13_undo_39 : decode cX13_undo 39 = .ok (.iadd, 1) := by decide +kernel
theorem dX13_undo_40 : decode cX13_undo 40 = .ok (.aload_n 0, 1) := by decide +kernel
theorem dX13_undo_41 : decode cX13_undo 41 = .ok (.getfield 107, 3) := by decide +kernel
theorem dX13_undo_44 : decode cX13_undo 44 = .ok (.bipush 39, 2) := by decide +kernel
theorem dX13_undo_46 : decode cX13_undo 46 = .ok (.aload_n 0, 1) := by decide +kernel
theorem dX13_undo_47 : decode cX13_undo 47 = .ok (.getfield 221, 3) := by decide +kernel
theorem dX13_undo_50 : decode cX13_undo 50 = .ok (.imul, 1) := by decide +kernel
theorem dX13_undo_51 : decode cX13_undo 51 = .ok (.iload_n 1, 1) := by decide +kernel
theorem dX13_undo_52 : decode cX13_undo 52 = .ok (.iadd, 1) := by decide +kernel
theorem dX13_undo_53 : decode cX13_undo 53 = .ok (.iaload, 1) := by decide +kernel
theorem dX13_undo_54 : decode cX13_undo 54 = .ok (.iastore, 1) := by decide +kernel
theorem dX13_undo_55 : decode cX13_undo 55 = .ok (.iinc 1 1, 3) := by decide +kernel
theorem dX13_undo_58 : decode cX13_undo 58 = .ok (.goto (-32), 3) := by decide +kernel
theorem dX13_undo_61 : decode cX13_undo 61 = .ok (.aload_n 0, 1) := by decide +kernel
theorem dX13_undo_62 : decode cX13_undo 62 = .ok (.getfield 221, 3) := by decide +kernel
theorem dX13_undo_65 : decode cX13_undo 65 = .ok (.ireturn, 1) := by decide +kernel
theorem dX13_ended_0 : decode cX13_ended 0 = .ok (.aload_n 0, 1) := by decide +kernel
theorem dX13_ended_1 : decode cX13_ended 1 = .ok (.getfield 98, 3) := by decide +kernel
theorem dX13_ended_4 : decode cX13_ended 4 = .ok (.bipush 56, 2) := by decide +kernel
theorem dX13_ended_6 : decode cX13_ended 6 = .ok (.iload_n 1, 1) := by decide +kernel
theorem dX13_ended_7 : decode cX13_ended 7 = .ok (.iadd, 1) := by decide +kernel
theorem dX13_ended_8 : decode cX13_ended 8 = .ok (.iaload, 1) := by decide +kernel
theorem dX13_ended_9 : decode cX13_ended 9 = .ok (.istore_n 2, 1) := by decide +kernel
theorem dX13_ended_10 : decode cX13_ended 10 = .ok (.aload_n 0, 1) := by decide +kernel
theorem dX13_ended_11 : decode cX13_ended 11 = .ok (.iload_n 2, 1) := by decide +kernel
theorem dX13_ended_12 : decode cX13_ended 12 = .ok (.aload_n 0, 1) := by decide +kernel
theorem dX13_ended_13 : decode cX13_ended 13 = .ok (.getfield 98, 3) := by decide +kernel
theorem dX13_ended_16 : decode cX13_ended 16 = .ok (.bipush 102, 2) := by decide +kernel
theorem dX13_ended_18 : decode cX13_ended 18 = .ok (.iaload, 1) := by decide +kernel
theorem dX13_ended_19 : decode cX13_ended 19 = .ok (.invokevirtual 255, 3) := by decide +kernel
theorem dX13_ended_22 : decode cX13_ended 22 = .ok (.ifCond .eq 7, 3) := by decide +kernel
theorem dX13_ended_25 : decode cX13_ended 25 = .ok (.iload_n 2, 1) := by decide +kernel
theorem dX13_ended_26 : decode cX13_ended 26 = .ok (.goto 39, 3) := by decide +kernel
theorem dX13_ended_29 : decode cX13_ended 29 = .ok (.aload_n 0, 1) := by decide +kernel
theorem dX13_ended_30 : decode cX13_ended 30 = .ok (.aload_n 0, 1) := by decide +kernel
theorem dX13_ended_31 : decode cX13_ended 31 = .ok (.getfield 98, 3) := by decide +kernel
theorem dX13_ended_34 : decode cX13_ended 34 = .ok (.bipush 60, 2) := by decide +kernel
theorem dX13_ended_36 : decode cX13_ended 36 = .ok (.iload_n 1, 1) := by decide +kernel
theorem dX13_ended_37 : decode cX13_ended 37 = .ok (.iadd, 1) := by decide +kernel
theorem dX13_ended_38 : decode cX13_ended 38 = .ok (.iaload, 1) := by decide +kernel
theorem dX13_ended_39 : decode cX13_ended 39 = .ok (.aload_n 0, 1) := by decide +kernel
theorem dX13_ended_40 : decode cX13_ended 40 = .ok (.getfield 98, 3) := by decide +kernel
theorem dX13_ended_43 : decode cX13_ended 43 = .ok (.bipush 102, 2) := by decide +kernel
theorem dX13_ended_45 : decode cX13_ended 45 = .ok (.iaload, 1) := by decide +kernel
theorem dX13_ended_46 : decode cX13_ended 46 = .ok (.invokevirtual 255, 3) := by decide +kernel
theorem dX13_ended_49 : decode cX13_ended 49 = .ok (.ifCond .eq 15, 3) := by decide +kernel
theorem dX13_ended_52 : decode cX13_ended 52 = .ok (.aload_n 0, 1) := by decide +kernel
theorem dX13_ended_53 : decode cX13_ended 53 = .ok (.getfield 98, 3) := by decide +kernel
theorem dX13_ended_56 : decode cX13_ended 56 = .ok (.bipush 60, 2) := by decide +kernel
theorem dX13_ended_58 : decode cX13_ended 58 = .ok (.iload_n 1, 1) := by decide +kernel
theorem dX13_ended_59 : decode cX13_ended 59 = .ok (.iadd, 1) := by decide +kernel
theorem dX13_ended_60 : decode cX13_ended 60 = .ok (.iaload, 1) := by decide +kernel
theorem dX13_ended_61 : decode cX13_ended 61 = .ok (.goto 4, 3) := by decide +kernel
theorem dX13_ended_64 : decode cX13_ended 64 = .ok (.iconst (-1), 1) := by decide +kernel
theorem dX13_ended_65 : decode cX13_ended 65 = .ok (.istore_n 3, 1) := by decide +kernel
theorem dX13_ended_66 : decode cX13_ended 66 = .ok (.iload_n 3, 1) := by decide +kernel
theorem dX13_ended_67 : decode cX13_ended 67 = .ok (.iconst (-1), 1) := by decide +kernel
theorem dX13_ended_68 : decode cX13_ended 68 = .ok (.if_icmp .eq 9, 3) := by decide +kernel
theorem dX13_ended_71 : decode cX13_ended 71 = .ok (.aload_n 0, 1) := by decide +kernel
theorem dX13_ended_72 : decode cX13_ended 72 = .ok (.iload_n 3, 1) := by decide +kernel
theorem dX13_ended_73 : decode cX13_ended 73 = .ok (.invokevirtual 282, 3) := by decide +kernel
theorem dX13_ended_76 : decode cX13_ended 76 = .ok (.return_, 1) := by decide +kernel
theorem dX13_ended_77 : decode cX13_ended 77 = .ok (.aload_n 0, 1) := by decide +kernel
theorem dX13_ended_78 : decode cX13_ended 78 = .ok (.getfield 98, 3) := by decide +kernel
theorem dX13_ended_81 : decode cX13_ended 81 = .ok (.sipush 133, 3) := by decide +kernel
theorem dX13_ended_84 : decode cX13_ended 84 = .ok (.iload_n 1, 1) := by decide +kernel
theorem dX13_ended_85 : decode cX13_ended 85 = .ok (.iadd, 1) := by decide +kernel
theorem dX13_ended_86 : decode cX13_ended 86 = .ok (.dup2, 1) := by decide +kernel
theorem dX13_ended_87 : decode cX13_ended 87 = .ok (.iaload, 1) := by decide +kernel
theorem dX13_ended_88 : decode cX13_ended 88 = .ok (.iconst 1, 1) := by decide +kernel
theorem dX13_ended_89 : decode cX13_ended 89 = .ok (.iadd, 1) := by decide +kernel
theorem dX13_ended_90 : decode cX13_ended 90 = .ok (.iastore, 1) := by decide +kernel
theorem dX13_ended_91 : decode cX13_ended 91 = .ok (.aload_n 0, 1) := by decide +kernel
theorem dX13_ended_92 : decode cX13_ended 92 = .ok (.getfield 98, 3) := by decide +kernel
theorem dX13_ended_95 : decode cX13_ended 95 = .ok (.sipush 133, 3) := by decide +kernel
theorem dX13_ended_98 : decode cX13_ended 98 = .ok (.iload_n 1, 1) := by decide +kernel
theorem dX13_ended_99 : decode cX13_ended 99 = .ok (.iadd, 1) := by decide +kernel
theorem dX13_ended_100 : decode cX13_ended 100 = .ok (.iaload, 1) := by decide +kernel
theorem dX13_ended_101 : decode cX13_ended 101 = .ok (.aload_n 0, 1) := by decide +kernel
theorem dX13_ended_102 : decode cX13_ended 102 = .ok (.getfield 98, 3) := by decide +kernel
theorem dX13_ended_105 : decode cX13_ended 105 = .ok (.iconst 3, 1) := by decide +kernel
theorem dX13_ended_106 : decode cX13_ended 106 = .ok (.iaload, 1) := by decide +kernel
theorem dX13_ended_107 : decode cX13_ended 107 = .ok (.if_icmp .lt 16, 3) := by decide +kernel
theorem dX13_ended_110 : decode cX13_ended 110 = .ok (.aload_n 0, 1) := by decide +kernel
theorem dX13_ended_111 : decode cX13_ended 111 = .ok (.getfield 98, 3) := by decide +kernel
theorem dX13_ended_114 : decode cX13_ended 114 = .ok (.bipush 104, 2) := by decide +kernel
theorem dX13_ended_116 : decode cX13_ended 116 = .ok (.dup2, 1) := by decide +kernel
theorem dX13_ended_117 : decode cX13_ended 117 = .ok (.iaload, 1) := by decide +kernel
theorem dX13_ended_118 : decode cX13_ended 118 = .ok (.iconst 1, 1) := by decide +kernel
theorem dX13_ended_119 : decode cX13_ended 119 = .ok (.iload_n 1, 1) := by decide +kernel
theorem dX13_ended_120 : decode cX13_ended 120 = .ok (.ishl, 1) := by decide +kernel
theorem dX13_ended_121 : decode cX13_ended 121 = .ok (.ior, 1) := by decide +kernel
theorem dX13_ended_122 : decode cX13_ended 122 = .ok (.iastore, 1) := by decide +kernel
theorem dX13_ended_123 : decode cX13_ended 123 = .ok (.return_, 1) := by decide +kernel
theorem dX13_oneHour_0 : decode cX13_oneHour 0 = .ok (.iconst 0, 1) := by decide +kernel
theorem dX13_oneHour_1 : decode cX13_oneHour 1 = .ok (.istore_n 1, 1) := by decide +kernel
theorem dX13_oneHour_2 : decode cX13_oneHour 2 = .ok (.iload_n 1, 1) := by decide +kernel
theorem dX13_oneHour_3 : decode cX13_oneHour 3 = .ok (.aload_n 0, 1) := by decide +kernel
theorem dX13_oneHour_4 : decode cX13_oneHour 4 = .ok (.getfield 98, 3) := by decide +kernel
theorem dX13_oneHour_7 : decode cX13_oneHour 7 = .ok (.iconst 1, 1) := by decide +kernel
theorem dX13_oneHour_8 : decode cX13_oneHour 8 = .ok (.iaload, 1) := by decide +kernel
theorem dX13_oneHour_9 : decode cX13_oneHour 9 = .ok (.if_icmp .ge 76, 3) := by decide +kernel
theorem dX13_oneHour_12 : decode cX13_oneHour 12 = .ok (.aload_n 0, 1) := by decide +kernel
theorem dX13_oneHour_13 : decode cX13_oneHour 13 = .ok (.iload_n 1, 1) := by decide +kernel
theorem dX13_oneHour_14 : decode cX13_oneHour 14 = .ok (.invokevirtual 261, 3) := by decide +kernel
theorem dX13_oneHour_17 : decode cX13_oneHour 17 = .ok (.ifCond .eq 6, 3) := by decide +kernel
theorem dX13_oneHour_20 : decode cX13_oneHour 20 = .ok (.goto 59, 3) := by decide +kernel
theorem dX13_oneHour_23 : decode cX13_oneHour 23 = .ok (.aload_n 0, 1) := by decide +kernel
theorem dX13_oneHour_24 : decode cX13_oneHour 24 = .ok (.getfield 98, 3) := by decide +kernel
theorem dX13_oneHour_27 : decode cX13_oneHour 27 = .ok (.bipush 125, 2) := by decide +kernel
theorem dX13_oneHour_29 : decode cX13_oneHour 29 = .ok (.iload_n 1, 1) := by decide +kernel
theorem dX13_oneHour_30 : decode cX13_oneHour 30 = .ok (.iadd, 1) := by decide +kernel
theorem dX13_oneHour_31 : decode cX13_oneHour 31 = .ok (.iaload, 1) := by decide +kernel
theorem dX13_oneHour_32 : decode cX13_oneHour 32 = .ok (.ifCond .ne 11, 3) := by decide +kernel
theorem dX13_oneHour_35 : decode cX13_oneHour 35 = .ok (.aload_n 0, 1) := by decide +kernel
theorem dX13_oneHour_36 : decode cX13_oneHour 36 = .ok (.iload_n 1, 1) := by decide +kernel
theorem dX13_oneHour_37 : decode cX13_oneHour 37 = .ok (.invokevirtual 303, 3) := by decide +kernel
theorem dX13_oneHour_40 : decode cX13_oneHour 40 = .ok (.goto 39, 3) := by decide +kernel
theorem dX13_oneHour_43 : decode cX13_oneHour 43 = .ok (.aload_n 0, 1) := by decide +kernel
theorem dX13_oneHour_44 : decode cX13_oneHour 44 = .ok (.getfield 98, 3) := by decide +kernel
theorem dX13_oneHour_47 : decode cX13_oneHour 47 = .ok (.bipush 125, 2) := by decide +kernel
theorem dX13_oneHour_49 : decode cX13_oneHour 49 = .ok (.iload_n 1, 1) := by decide +kernel
theorem dX13_oneHour_50 : decode cX13_oneHour 50 = .ok (.iadd, 1) := by decide +kernel
theorem dX13_oneHour_51 : decode cX13_oneHour 51 = .ok (.dup2, 1) := by decide +kernel
theorem dX13_oneHour_52 : decode cX13_oneHour 52 = .ok (.iaload, 1) := by decide +kernel
theorem dX13_oneHour_53 : decode cX13_oneHour 53 = .ok (.aload_n 0, 1) := by decide +kernel
theorem dX13_oneHour_54 : decode cX13_oneHour 54 = .ok (.getfield 98, 3) := by decide +kernel
theorem dX13_oneHour_57 : decode cX13_oneHour 57 = .ok (.bipush 125, 2) := by decide +kernel
theorem dX13_oneHour_59 : decode cX13_oneHour 59 = .ok (.iload_n 1, 1) := by decide +kernel
theorem dX13_oneHour_60 : decode cX13_oneHour 60 = .ok (.iadd, 1) := by decide +kernel
theorem dX13_oneHour_61 : decode cX13_oneHour 61 = .ok (.iaload, 1) := by decide +kernel
theorem dX13_oneHour_62 : decode cX13_oneHour 62 = .ok (.aload_n 0, 1) := by decide +kernel
theorem dX13_oneHour_63 : decode cX13_oneHour 63 = .ok (.iload_n 1, 1) := by decide +kernel
theorem dX13_oneHour_64 : decode cX13_oneHour 64 = .ok (.aload_n 0, 1) := by decide +kernel
theorem dX13_oneHour_65 : decode cX13_oneHour 65 = .ok (.getfield 98, 3) := by decide +kernel
theorem dX13_oneHour_68 : decode cX13_oneHour 68 = .ok (.bipush 102, 2) := by decide +kernel
theorem dX13_oneHour_70 : decode cX13_oneHour 70 = .ok (.iaload, 1) := by decide +kernel
theorem dX13_oneHour_71 : decode cX13_oneHour 71 = .ok (.invokevirtual 264, 3) := by decide +kernel
theorem dX13_oneHour_74 : decode cX13_oneHour 74 = .ok (.invokestatic 227, 3) := by decide +kernel
theorem dX13_oneHour_77 : decode cX13_oneHour 77 = .ok (.isub, 1) := by decide +kernel
theorem dX13_oneHour_78 : decode cX13_oneHour 78 = .ok (.iastore, 1) := by decide +kernel
theorem dX13_oneHour_79 : decode cX13_oneHour 79 = .ok (.iinc 1 1, 3) := by decide +kernel
theorem dX13_oneHour_82 : decode cX13_oneHour 82 = .ok (.goto (-80), 3) := by decide +kernel
theorem dX13_oneHour_85 : decode cX13_oneHour 85 = .ok (.aload_n 0, 1) := by decide +kernel
theorem dX13_oneHour_86 : decode cX13_oneHour 86 = .ok (.getfield 98, 3) := by decide +kernel
theorem dX13_oneHour_89 : decode cX13_oneHour 89 = .ok (.bipush 103, 2) := by decide +kernel
theorem dX13_oneHour_91 : decode cX13_oneHour 91 = .ok (.iconst 0, 1) := by decide +kernel
theorem dX13_oneHour_92 : decode cX13_oneHour 92 = .ok (.iastore, 1) := by decide +kernel
theorem dX13_oneHour_93 : decode cX13_oneHour 93 = .ok (.aload_n 0, 1) := by decide +kernel
theorem dX13_oneHour_94 : decode cX13_oneHour 94 = .ok (.getfield 98, 3) := by decide +kernel
theorem dX13_oneHour_97 : decode cX13_oneHour 97 = .ok (.bipush 102, 2) := by decide +kernel
theorem dX13_oneHour_99 : decode cX13_oneHour 99 = .ok (.iaload, 1) := by decide +kernel
theorem dX13_oneHour_100 : decode cX13_oneHour 100 = .ok (.bipush 24, 2) := by decide +kernel
theorem dX13_oneHour_102 : decode cX13_oneHour 102 = .ok (.irem, 1) := by decide +kernel
theorem dX13_oneHour_103 : decode cX13_oneHour 103 = .ok (.bipush 23, 2) := by decide +kernel
theorem dX13_oneHour_105 : decode cX13_oneHour 105 = .ok (.if_icmp .ne 44, 3) := by decide +kernel
theorem dX13_oneHour_108 : decode cX13_oneHour 108 = .ok (.iconst 0, 1) := by decide +kernel
theorem dX13_oneHour_109 : decode cX13_oneHour 109 = .ok (.istore_n 1, 1) := by decide +kernel
theorem dX13_oneHour_110 : decode cX13_oneHour 110 = .ok (.iload_n 1, 1) := by decide +kernel
theorem dX13_oneHour_111 : decode cX13_oneHour 111 = .ok (.aload_n 0, 1) := by decide +kernel
theorem dX13_oneHour_112 : decode cX13_oneHour 112 = .ok (.getfield 98, 3) := by decide +kernel
theorem dX13_oneHour_115 : decode cX13_oneHour 115 = .ok (.iconst 0, 1) := by decide +kernel
theorem dX13_oneHour_116 : decode cX13_oneHour 116 = .ok (.iaload, 1) := by decide +kernel
theorem dX13_oneHour_117 : decode cX13_oneHour 117 = .ok (.if_icmp .ge 32, 3) := by decide +kernel
theorem dX13_oneHour_120 : decode cX13_oneHour 120 = .ok (.aload_n 0, 1) := by decide +kernel
theorem dX13_oneHour_121 : decode cX13_oneHour 121 = .ok (.getfield 98, 3) := by decide +kernel
theorem dX13_oneHour_124 : decode cX13_oneHour 124 = .ok (.bipush 105, 2) := by decide +kernel
theorem dX13_oneHour_126 : decode cX13_oneHour 126 = .ok (.iload_n 1, 1) := by decide +kernel
theorem dX13_oneHour_127 : decode cX13_oneHour 127 = .ok (.iadd, 1) := by decide +kernel
theorem dX13_oneHour_128 : decode cX13_oneHour 128 = .ok (.aload_n 0, 1) := by decide +kernel
theorem dX13_oneHour_129 : decode cX13_oneHour 129 = .ok (.iload_n 1, 1) := by decide +kernel
theorem dX13_oneHour_130 : decode cX13_oneHour 130 = .ok (.aload_n 0, 1) := by decide +kernel
theorem dX13_oneHour_131 : decode cX13_oneHour 131 = .ok (.getfield 98, 3) := by decide +kernel
theorem dX13_oneHour_134 : decode cX13_oneHour 134 = .ok (.bipush 105, 2) := by decide +kernel
theorem dX13_oneHour_136 : decode cX13_oneHour 136 = .ok (.iload_n 1, 1) := by decide +kernel
theorem dX13_oneHour_137 : decode cX13_oneHour 137 = .ok (.iadd, 1) := by decide +kernel
theorem dX13_oneHour_138 : decode cX13_oneHour 138 = .ok (.iaload, 1) := by decide +kernel
theorem dX13_oneHour_139 : decode cX13_oneHour 139 = .ok (.invokevirtual 231, 3) := by decide +kernel
theorem dX13_oneHour_142 : decode cX13_oneHour 142 = .ok (.iastore, 1) := by decide +kernel
theorem dX13_oneHour_143 : decode cX13_oneHour 143 = .ok (.iinc 1 1, 3) := by decide +kernel
theorem dX13_oneHour_146 : decode cX13_oneHour 146 = .ok (.goto (-36), 3) := by decide +kernel
theorem dX13_oneHour_149 : decode cX13_oneHour 149 = .ok (.aload_n 0, 1) := by decide +kernel
theorem dX13_oneHour_150 : decode cX13_oneHour 150 = .ok (.getfield 98, 3) := by decide +kernel
theorem dX13_oneHour_153 : decode cX13_oneHour 153 = .ok (.bipush 102, 2) := by decide +kernel
theorem dX13_oneHour_155 : decode cX13_oneHour 155 = .ok (.dup2, 1) := by decide +kernel
theorem dX13_oneHour_156 : decode cX13_oneHour 156 = .ok (.iaload, 1) := by decide +kernel
theorem dX13_oneHour_157 : decode cX13_oneHour 157 = .ok (.iconst 1, 1) := by decide +kernel
theorem dX13_oneHour_158 : decode cX13_oneHour 158 = .ok (.iadd, 1) := by decide +kernel
theorem dX13_oneHour_159 : decode cX13_oneHour 159 = .ok (.iastore, 1) := by decide +kernel
theorem dX13_oneHour_160 : decode cX13_oneHour 160 = .ok (.return_, 1) := by decide +kernel
theorem dX13_passHours_0 : decode cX13_passHours 0 = .ok (.iload_n 1, 1) := by decide +kernel
theorem dX13_passHours_1 : decode cX13_passHours 1 = .ok (.sipush 600, 3) := by decide +kernel
theorem dX13_passHours_4 : decode cX13_passHours 4 = .ok (.aload_n 0, 1) := by decide +kernel
theorem dX13_passHours_5 : decode cX13_passHours 5 = .ok (.getfield 98, 3) := by decide +kernel
theorem dX13_passHours_8 : decode cX13_passHours 8 = .ok (.bipush 102, 2) := by decide +kernel
theorem dX13_passHours_10 : decode cX13_passHours 10 = .ok (.iaload, 1) := by decide +kernel
theorem dX13_passHours_11 : decode cX13_passHours 11 = .ok (.isub, 1) := by decide +kernel
theorem dX13_passHours_12 : decode cX13_passHours 12 = .ok (.invokestatic 227, 3) := by decide +kernel
theorem dX13_passHours_15 : decode cX13_passHours 15 = .ok (.istore_n 2, 1) := by decide +kernel
theorem dX13_passHours_16 : decode cX13_passHours 16 = .ok (.iconst 0, 1) := by decide +kernel
theorem dX13_passHours_17 : decode cX13_passHours 17 = .ok (.istore_n 3, 1) := by decide +kernel
theorem dX13_passHours_18 : decode cX13_passHours 18 = .ok (.iload_n 3, 1) := by decide +kernel
theorem dX13_passHours_19 : decode cX13_passHours 19 = .ok (.iload_n 2, 1) := by decide +kernel
theorem dX13_passHours_20 : decode cX13_passHours 20 = .ok (.if_icmp .ge 13, 3) := by decide +kernel
theorem dX13_passHours_23 : decode cX13_passHours 23 = .ok (.aload_n 0, 1) := by decide +kernel
theorem dX13_passHours_24 : decode cX13_passHours 24 = .ok (.invokevirtual 306, 3) := by decide +kernel
theorem dX13_passHours_27 : decode cX13_passHours 27 = .ok (.iinc 3 1, 3) := by decide +kernel
theorem dX13_passHours_30 : decode cX13_passHours 30 = .ok (.goto (-12), 3) := by decide +kernel
theorem dX13_passHours_33 : decode cX13_passHours 33 = .ok (.iload_n 2, 1) := by decide +kernel
theorem dX13_passHours_34 : decode cX13_passHours 34 = .ok (.ireturn, 1) := by decide +kernel
theorem dX13_hours_0 : decode cX13_hours 0 = .ok (.aload_n 0, 1) := by decide +kernel
theorem dX13_hours_1 : decode cX13_hours 1 = .ok (.iconst 0, 1) := by decide +kernel
theorem dX13_hours_2 : decode cX13_hours 2 = .ok (.putfield 1, 3) := by decide +kernel
theorem dX13_hours_5 : decode cX13_hours 5 = .ok (.iload_n 1, 1) := by decide +kernel
theorem dX13_hours_6 : decode cX13_hours 6 = .ok (.iconst 1, 1) := by decide +kernel
theorem dX13_hours_7 : decode cX13_hours 7 = .ok (.bipush 60, 2) := by decide +kernel
theorem dX13_hours_9 : decode cX13_hours 9 = .ok (.invokestatic 75, 3) := by decide +kernel
theorem dX13_hours_12 : decode cX13_hours 12 = .ok (.ifCond .ne 5, 3) := by decide +kernel
theorem dX13_hours_15 : decode cX13_hours 15 = .ok (.iconst (-1), 1) := by decide +kernel
theorem dX13_hours_16 : decode cX13_hours 16 = .ok (.ireturn, 1) := by decide +kernel
theorem dX13_hours_17 : decode cX13_hours 17 = .ok (.aload_n 0, 1) := by decide +kernel
theorem dX13_hours_18 : decode cX13_hours 18 = .ok (.getfield 98, 3) := by decide +kernel
theorem dX13_hours_21 : decode cX13_hours 21 = .ok (.bipush 102, 2) := by decide +kernel
theorem dX13_hours_23 : decode cX13_hours 23 = .ok (.iaload, 1) := by decide +kernel
theorem dX13_hours_24 : decode cX13_hours 24 = .ok (.sipush 600, 3) := by decide +kernel
theorem dX13_hours_27 : decode cX13_hours 27 = .ok (.if_icmp .ne 5, 3) := by decide +kernel
theorem dX13_hours_30 : decode cX13_hours 30 = .ok (.iconst 0, 1) := by decide +kernel
theorem dX13_hours_31 : decode cX13_hours 31 = .ok (.ireturn, 1) := by decide +kernel
theorem dX13_hours_32 : decode cX13_hours 32 = .ok (.aload_n 0, 1) := by decide +kernel
theorem dX13_hours_33 : decode cX13_hours 33 = .ok (.invokevirtual 293, 3) := by decide +kernel
theorem dX13_hours_36 : decode cX13_hours 36 = .ok (.aload_n 0, 1) := by decide +kernel
theorem dX13_hours_37 : decode cX13_hours 37 = .ok (.iload_n 1, 1) := by decide +kernel
theorem dX13_hours_38 : decode cX13_hours 38 = .ok (.invokevirtual 309, 3) := by decide +kernel
theorem dX13_hours_41 : decode cX13_hours 41 = .ok (.ireturn, 1) := by decide +kernel
theorem dX13_layAside_0 : decode cX13_layAside 0 = .ok (.iconst 0, 1) := by decide +kernel
theorem dX13_layAside_1 : decode cX13_layAside 1 = .ok (.istore_n 1, 1) := by decide +kernel
theorem dX13_layAside_2 : decode cX13_layAside 2 = .ok (.iload_n 1, 1) := by decide +kernel
theorem dX13_layAside_3 : decode cX13_layAside 3 = .ok (.bipush 39, 2) := by decide +kernel
theorem dX13_layAside_5 : decode cX13_layAside 5 = .ok (.if_icmp .ge 24, 3) := by decide +kernel
theorem dX13_layAside_8 : decode cX13_layAside 8 = .ok (.aload_n 0, 1) := by decide +kernel
theorem dX13_layAside_9 : decode cX13_layAside 9 = .ok (.getfield 110, 3) := by decide +kernel
theorem dX13_layAside_12 : decode cX13_layAside 12 = .ok (.iload_n 1, 1) := by decide +kernel
theorem dX13_layAside_13 : decode cX13_layAside 13 = .ok (.aload_n 0, 1) := by decide +kernel
theorem dX13_layAside_14 : decode cX13_layAside 14 = .ok (.getfield 98, 3) := by decide +kernel
theorem dX13_layAside_17 : decode cX13_layAside 17 = .ok (.bipush 102, 2) := by decide +kernel
theorem dX13_layAside_19 : decode cX13_layAside 19 = .ok (.iload_n 1, 1) := by decide +kernel
theorem dX13_layAside_20 : decode cX13_layAside 20 = .ok (.iadd, 1) := by decide +kernel
theorem dX13_layAside_21 : decode cX13_layAside 21 = .ok (.iaload, 1) := by decide +kernel
theorem dX13_layAside_22 : decode cX13_layAside 22 = .ok (.iastore, 1) := by decide +kernel
theorem dX13_layAside_23 : decode cX13_layAside 23 = .ok (.iinc 1 1, 3) := by decide +kernel
theorem dX13_layAside_26 : decode cX13_layAside 26 = .ok (.goto (-24), 3) := by decide +kernel
theorem dX13_layAside_29 : decode cX13_layAside 29 = .ok (.return_, 1) := by decide +kernel
theorem dX13_takeBack_0 : decode cX13_takeBack 0 = .ok (.iconst 0, 1) := by decide +kernel
theorem dX13_takeBack_1 : decode cX13_takeBack 1 = .ok (.istore_n 1, 1) := by decide +kernel
theorem dX13_takeBack_2 : decode cX13_takeBack 2 = .ok (.iload_n 1, 1) := by decide +kernel
theorem dX13_takeBack_3 : decode cX13_takeBack 3 = .ok (.bipush 39, 2) := by decide +kernel
theorem dX13_takeBack_5 : decode cX13_takeBack 5 = .ok (.if_icmp .ge 24, 3) := by decide +kernel
theorem dX13_takeBack_8 : decode cX13_takeBack 8 = .ok (.aload_n 0, 1) := by decide +kernel
theorem dX13_takeBack_9 : decode cX13_takeBack 9 = .ok (.getfield 98, 3) := by decide +kernel
theorem dX13_takeBack_12 : decode cX13_takeBack 12 = .ok (.bipush 102, 2) := by decide +kernel
theorem dX13_takeBack_14 : decode cX13_takeBack 14 = .ok (.iload_n 1, 1) := by decide +kernel
theorem dX13_takeBack_15 : decode cX13_takeBack 15 = .ok (.iadd, 1) := by decide +kernel
theorem dX13_takeBack_16 : decode cX13_takeBack 16 = .ok (.aload_n 0, 1) := by decide +kernel
theorem dX13_takeBack_17 : decode cX13_takeBack 17 = .ok (.getfield 110, 3) := by decide +kernel
theorem dX13_takeBack_20 : decode cX13_takeBack 20 = .ok (.iload_n 1, 1) := by decide +kernel
theorem dX13_takeBack_21 : decode cX13_takeBack 21 = .ok (.iaload, 1) := by decide +kernel
theorem dX13_takeBack_22 : decode cX13_takeBack 22 = .ok (.iastore, 1) := by decide +kernel
theorem dX13_takeBack_23 : decode cX13_takeBack 23 = .ok (.iinc 1 1, 3) := by decide +kernel
theorem dX13_takeBack_26 : decode cX13_takeBack 26 = .ok (.goto (-24), 3) := by decide +kernel
theorem dX13_takeBack_29 : decode cX13_takeBack 29 = .ok (.return_, 1) := by decide +kernel
theorem dX13_endsBy_0 : decode cX13_endsBy 0 = .ok (.iload_n 2, 1) := by decide +kernel
theorem dX13_endsBy_1 : decode cX13_endsBy 1 = .ok (.istore_n 3, 1) := by decide +kernel
theorem dX13_endsBy_2 : decode cX13_endsBy 2 = .ok (.aload_n 0, 1) := by decide +kernel
theorem dX13_endsBy_3 : decode cX13_endsBy 3 = .ok (.getfield 98, 3) := by decide +kernel
theorem dX13_endsBy_6 : decode cX13_endsBy 6 = .ok (.bipush 102, 2) := by decide +kernel
theorem dX13_endsBy_8 : decode cX13_endsBy 8 = .ok (.iaload, 1) := by decide +kernel
theorem dX13_endsBy_9 : decode cX13_endsBy 9 = .ok (.istore 4, 2) := by decide +kernel
theorem dX13_endsBy_11 : decode cX13_endsBy 11 = .ok (.iload 4, 2) := by decide +kernel
theorem dX13_endsBy_13 : decode cX13_endsBy 13 = .ok (.sipush 600, 3) := by decide +kernel
theorem dX13_endsBy_16 : decode cX13_endsBy 16 = .ok (.if_icmp .ge 30, 3) := by decide +kernel
theorem dX13_endsBy_19 : decode cX13_endsBy 19 = .ok (.iload_n 3, 1) := by decide +kernel
theorem dX13_endsBy_20 : decode cX13_endsBy 20 = .ok (.ifCond .ne 6, 3) := by decide +kernel
theorem dX13_endsBy_23 : decode cX13_endsBy 23 = .ok (.iload 4, 2) := by decide +kernel
theorem dX13_endsBy_25 : decode cX13_endsBy 25 = .ok (.ireturn, 1) := by decide +kernel
theorem dX13_endsBy_26 : decode cX13_endsBy 26 = .ok (.iload_n 3, 1) := by decide +kernel
theorem dX13_endsBy_27 : decode cX13_endsBy 27 = .ok (.iload_n 3, 1) := by decide +kernel
theorem dX13_endsBy_28 : decode cX13_endsBy 28 = .ok (.aload_n 0, 1) := by decide +kernel
theorem dX13_endsBy_29 : decode cX13_endsBy 29 = .ok (.iload_n 1, 1) := by decide +kernel
theorem dX13_endsBy_30 : decode cX13_endsBy 30 = .ok (.iload 4, 2) := by decide +kernel
theorem dX13_endsBy_32 : decode cX13_endsBy 32 = .ok (.invokevirtual 264, 3) := by decide +kernel
theorem dX13_endsBy_35 : decode cX13_endsBy 35 = .ok (.invokestatic 227, 3) := by decide +kernel
theorem dX13_endsBy_38 : decode cX13_endsBy 38 = .ok (.isub, 1) := by decide +kernel
theorem dX13_endsBy_39 : decode cX13_endsBy 39 = .ok (.istore_n 3, 1) := by decide +kernel
theorem dX13_endsBy_40 : decode cX13_endsBy 40 = .ok (.iinc 4 1, 3) := by decide +kernel
theorem dX13_endsBy_43 : decode cX13_endsBy 43 = .ok (.goto (-32), 3) := by decide +kernel
theorem dX13_endsBy_46 : decode cX13_endsBy 46 = .ok (.iconst (-1), 1) := by decide +kernel
theorem dX13_endsBy_47 : decode cX13_endsBy 47 = .ok (.ireturn, 1) := by decide +kernel
theorem dX13_endOf_0 : decode cX13_endOf 0 = .ok (.aload_n 0, 1) := by decide +kernel
theorem dX13_endOf_1 : decode cX13_endOf 1 = .ok (.iload_n 1, 1) := by decide +kernel
theorem dX13_endOf_2 : decode cX13_endOf 2 = .ok (.invokevirtual 258, 3) := by decide +kernel
theorem dX13_endOf_5 : decode cX13_endOf 5 = .ok (.ifCond .eq 28, 3) := by decide +kernel
theorem dX13_endOf_8 : decode cX13_endOf 8 = .ok (.aload_n 0, 1) := by decide +kernel
theorem dX13_endOf_9 : decode cX13_endOf 9 = .ok (.iload_n 1, 1) := by decide +kernel
theorem dX13_endOf_10 : decode cX13_endOf 10 = .ok (.invokevirtual 261, 3) := by decide +kernel
theorem dX13_endOf_13 : decode cX13_endOf 13 = .ok (.ifCond .ne 20, 3) := by decide +kernel
theorem dX13_endOf_16 : decode cX13_endOf 16 = .ok (.aload_n 0, 1) := by decide +kernel
theorem dX13_endOf_17 : decode cX13_endOf 17 = .ok (.iload_n 1, 1) := by decide +kernel
theorem dX13_endOf_18 : decode cX13_endOf 18 = .ok (.aload_n 0, 1) := by decide +kernel
theorem dX13_endOf_19 : decode cX13_endOf 19 = .ok (.getfield 98, 3) := by decide +kernel
theorem dX13_endOf_22 : decode cX13_endOf 22 = .ok (.bipush 125, 2) := by decide +kernel
theorem dX13_endOf_24 : decode cX13_endOf 24 = .ok (.iload_n 1, 1) := by decide +kernel
theorem dX13_endOf_25 : decode cX13_endOf 25 = .ok (.iadd, 1) := by decide +kernel
theorem dX13_endOf_26 : decode cX13_endOf 26 = .ok (.iaload, 1) := by decide +kernel
theorem dX13_endOf_27 : decode cX13_endOf 27 = .ok (.invokevirtual 312, 3) := by decide +kernel
theorem dX13_endOf_30 : decode cX13_endOf 30 = .ok (.goto 4, 3) := by decide +kernel
theorem dX13_endOf_33 : decode cX13_endOf 33 = .ok (.iconst (-1), 1) := by decide +kernel
theorem dX13_endOf_34 : decode cX13_endOf 34 = .ok (.ireturn, 1) := by decide +kernel
theorem dX13_ends_0 : decode cX13_ends 0 = .ok (.aload_n 0, 1) := by decide +kernel
theorem dX13_ends_1 : decode cX13_ends 1 = .ok (.iconst 0, 1) := by decide +kernel
theorem dX13_ends_2 : decode cX13_ends 2 = .ok (.putfield 1, 3) := by decide +kernel
theorem dX13_ends_5 : decode cX13_ends 5 = .ok (.aload_n 0, 1) := by decide +kernel
theorem dX13_ends_6 : decode cX13_ends 6 = .ok (.iload_n 1, 1) := by decide +kernel
theorem dX13_ends_7 : decode cX13_ends 7 = .ok (.invokevirtual 315, 3) := by decide +kernel
theorem dX13_ends_10 : decode cX13_ends 10 = .ok (.ireturn, 1) := by decide +kernel
theorem dX13_layLapses_0 : decode cX13_layLapses 0 = .ok (.aload_n 0, 1) := by decide +kernel
theorem dX13_layLapses_1 : decode cX13_layLapses 1 = .ok (.invokevirtual 318, 3) := by decide +kernel
theorem dX13_layLapses_4 : decode cX13_layLapses 4 = .ok (.iconst 0, 1) := by decide +kernel
theorem dX13_layLapses_5 : decode cX13_layLapses 5 = .ok (.istore_n 1, 1) := by decide +kernel
theorem dX13_layLapses_6 : decode cX13_layLapses 6 = .ok (.iload_n 1, 1) := by decide +kernel
theorem dX13_layLapses_7 : decode cX13_layLapses 7 = .ok (.iconst 4, 1) := by decide +kernel
theorem dX13_layLapses_8 : decode cX13_layLapses 8 = .ok (.if_icmp .ge 16, 3) := by decide +kernel
theorem dX13_layLapses_11 : decode cX13_layLapses 11 = .ok (.aload_n 0, 1) := by decide +kernel
theorem dX13_layLapses_12 : decode cX13_layLapses 12 = .ok (.getfield 127, 3) := by decide +kernel
theorem dX13_layLapses_15 : decode cX13_layLapses 15 = .ok (.iload_n 1, 1) := by decide +kernel
theorem dX13_layLapses_16 : decode cX13_layLapses 16 = .ok (.iconst (-1), 1) := by decide +kernel
theorem dX13_layLapses_17 : decode cX13_layLapses 17 = .ok (.iastore, 1) := by decide +kernel
theorem dX13_layLapses_18 : decode cX13_layLapses 18 = .ok (.iinc 1 1, 3) := by decide +kernel
theorem dX13_layLapses_21 : decode cX13_layLapses 21 = .ok (.goto (-15), 3) := by decide +kernel
theorem dX13_layLapses_24 : decode cX13_layLapses 24 = .ok (.aload_n 0, 1) := by decide +kernel
theorem dX13_layLapses_25 : decode cX13_layLapses 25 = .ok (.getfield 98, 3) := by decide +kernel
theorem dX13_layLapses_28 : decode cX13_layLapses 28 = .ok (.bipush 102, 2) := by decide +kernel
theorem dX13_layLapses_30 : decode cX13_layLapses 30 = .ok (.iaload, 1) := by decide +kernel
theorem dX13_layLapses_31 : decode cX13_layLapses 31 = .ok (.sipush 600, 3) := by decide +kernel
theorem dX13_layLapses_34 : decode cX13_layLapses 34 = .ok (.if_icmp .ge 69, 3) := by decide +kernel
theorem dX13_layLapses_37 : decode cX13_layLapses 37 = .ok (.aload_n 0, 1) := by decide +kernel
theorem dX13_layLapses_38 : decode cX13_layLapses 38 = .ok (.getfield 98, 3) := by decide +kernel
theorem dX13_layLapses_41 : decode cX13_layLapses 41 = .ok (.bipush 104, 2) := by decide +kernel
theorem dX13_layLapses_43 : decode cX13_layLapses 43 = .ok (.iaload, 1) := by decide +kernel
theorem dX13_layLapses_44 : decode cX13_layLapses 44 = .ok (.istore_n 1, 1) := by decide +kernel
theorem dX13_layLapses_45 : decode cX13_layLapses 45 = .ok (.aload_n 0, 1) := by decide +kernel
theorem dX13_layLapses_46 : decode cX13_layLapses 46 = .ok (.invokevirtual 306, 3) := by decide +kernel
theorem dX13_layLapses_49 : decode cX13_layLapses 49 = .ok (.iconst 0, 1) := by decide +kernel
theorem dX13_layLapses_50 : decode cX13_layLapses 50 = .ok (.istore_n 2, 1) := by decide +kernel
theorem dX13_layLapses_51 : decode cX13_layLapses 51 = .ok (.iload_n 2, 1) := by decide +kernel
theorem dX13_layLapses_52 : decode cX13_layLapses 52 = .ok (.aload_n 0, 1) := by decide +kernel
theorem dX13_layLapses_53 : decode cX13_layLapses 53 = .ok (.getfield 98, 3) := by decide +kernel
theorem dX13_layLapses_56 : decode cX13_layLapses 56 = .ok (.iconst 1, 1) := by decide +kernel
theorem dX13_layLapses_57 : decode cX13_layLapses 57 = .ok (.iaload, 1) := by decide +kernel
theorem dX13_layLapses_58 : decode cX13_layLapses 58 = .ok (.if_icmp .ge 42, 3) := by decide +kernel
theorem dX13_layLapses_61 : decode cX13_layLapses 61 = .ok (.aload_n 0, 1) := by decide +kernel
theorem dX13_layLapses_62 : decode cX13_layLapses 62 = .ok (.getfield 98, 3) := by decide +kernel
theorem dX13_layLapses_65 : decode cX13_layLapses 65 = .ok (.bipush 104, 2) := by decide +kernel
theorem dX13_layLapses_67 : decode cX13_layLapses 67 = .ok (.iaload, 1) := by decide +kernel
theorem dX13_layLapses_68 : decode cX13_layLapses 68 = .ok (.iload_n 1, 1) := by decide +kernel
theorem dX13_layLapses_69 : decode cX13_layLapses 69 = .ok (.iconst (-1), 1) := by decide +kernel
theorem dX13_layLapses_70 : decode cX13_layLapses 70 = .ok (.ixor, 1) := by decide +kernel
theorem dX13_layLapses_71 : decode cX13_layLapses 71 = .ok (.iand, 1) := by decide +kernel
theorem dX13_layLapses_72 : decode cX13_layLapses 72 = .ok (.iload_n 2, 1) := by decide +kernel
theorem dX13_layLapses_73 : decode cX13_layLapses 73 = .ok (.invokestatic 185, 3) := by decide +kernel
theorem dX13_layLapses_76 : decode cX13_layLapses 76 = .ok (.ifCond .eq 18, 3) := by decide +kernel
theorem dX13_layLapses_79 : decode cX13_layLapses 79 = .ok (.aload_n 0, 1) := by decide +kernel
theorem dX13_layLapses_80 : decode cX13_layLapses 80 = .ok (.getfield 127, 3) := by decide +kernel
theorem dX13_layLapses_83 : decode cX13_layLapses 83 = .ok (.iload_n 2, 1) := by decide +kernel
theorem dX13_layLapses_84 : decode cX13_layLapses 84 = .ok (.aload_n 0, 1) := by decide +kernel
theorem dX13_layLapses_85 : decode cX13_layLapses 85 = .ok (.getfield 98, 3) := by decide +kernel
theorem dX13_layLapses_88 : decode cX13_layLapses 88 = .ok (.bipush 102, 2) := by decide +kernel
theorem dX13_layLapses_90 : decode cX13_layLapses 90 = .ok (.iaload, 1) := by decide +kernel
theorem dX13_layLapses_91 : decode cX13_layLapses 91 = .ok (.iconst 1, 1) := by decide +kernel
theorem dX13_layLapses_92 : decode cX13_layLapses 92 = .ok (.isub, 1) := by decide +kernel
theorem dX13_layLapses_93 : decode cX13_layLapses 93 = .ok (.iastore, 1) := by decide +kernel
theorem dX13_layLapses_94 : decode cX13_layLapses 94 = .ok (.iinc 2 1, 3) := by decide +kernel
theorem dX13_layLapses_97 : decode cX13_layLapses 97 = .ok (.goto (-46), 3) := by decide +kernel
theorem dX13_layLapses_100 : decode cX13_layLapses 100 = .ok (.goto (-76), 3) := by decide +kernel
theorem dX13_layLapses_103 : decode cX13_layLapses 103 = .ok (.aload_n 0, 1) := by decide +kernel
theorem dX13_layLapses_104 : decode cX13_layLapses 104 = .ok (.invokevirtual 321, 3) := by decide +kernel
theorem dX13_layLapses_107 : decode cX13_layLapses 107 = .ok (.return_, 1) := by decide +kernel
theorem dX13_lapses_0 : decode cX13_lapses 0 = .ok (.aload_n 0, 1) := by decide +kernel
theorem dX13_lapses_1 : decode cX13_lapses 1 = .ok (.iconst 0, 1) := by decide +kernel
theorem dX13_lapses_2 : decode cX13_lapses 2 = .ok (.putfield 1, 3) := by decide +kernel
theorem dX13_lapses_5 : decode cX13_lapses 5 = .ok (.aload_n 0, 1) := by decide +kernel
theorem dX13_lapses_6 : decode cX13_lapses 6 = .ok (.iload_n 1, 1) := by decide +kernel
theorem dX13_lapses_7 : decode cX13_lapses 7 = .ok (.invokevirtual 258, 3) := by decide +kernel
theorem dX13_lapses_10 : decode cX13_lapses 10 = .ok (.ifCond .ne 5, 3) := by decide +kernel
theorem dX13_lapses_13 : decode cX13_lapses 13 = .ok (.iconst (-1), 1) := by decide +kernel
theorem dX13_lapses_14 : decode cX13_lapses 14 = .ok (.ireturn, 1) := by decide +kernel
theorem dX13_lapses_15 : decode cX13_lapses 15 = .ok (.aload_n 0, 1) := by decide +kernel
theorem dX13_lapses_16 : decode cX13_lapses 16 = .ok (.invokevirtual 324, 3) := by decide +kernel
theorem dX13_lapses_19 : decode cX13_lapses 19 = .ok (.aload_n 0, 1) := by decide +kernel
theorem dX13_lapses_20 : decode cX13_lapses 20 = .ok (.getfield 127, 3) := by decide +kernel
theorem dX13_lapses_23 : decode cX13_lapses 23 = .ok (.iload_n 1, 1) := by decide +kernel
theorem dX13_lapses_24 : decode cX13_lapses 24 = .ok (.iaload, 1) := by decide +kernel
theorem dX13_lapses_25 : decode cX13_lapses 25 = .ok (.ireturn, 1) := by decide +kernel
theorem dX13_soonest_0 : decode cX13_soonest 0 = .ok (.aload_n 0, 1) := by decide +kernel
theorem dX13_soonest_1 : decode cX13_soonest 1 = .ok (.iconst 0, 1) := by decide +kernel
theorem dX13_soonest_2 : decode cX13_soonest 2 = .ok (.putfield 1, 3) := by decide +kernel
theorem dX13_soonest_5 : decode cX13_soonest 5 = .ok (.aload_n 0, 1) := by decide +kernel
theorem dX13_soonest_6 : decode cX13_soonest 6 = .ok (.invokevirtual 324, 3) := by decide +kernel
theorem dX13_soonest_9 : decode cX13_soonest 9 = .ok (.iconst (-1), 1) := by decide +kernel
theorem dX13_soonest_10 : decode cX13_soonest 10 = .ok (.istore_n 1, 1) := by decide +kernel
theorem dX13_soonest_11 : decode cX13_soonest 11 = .ok (.iconst 0, 1) := by decide +kernel
theorem dX13_soonest_12 : decode cX13_soonest 12 = .ok (.istore_n 2, 1) := by decide +kernel
theorem dX13_soonest_13 : decode cX13_soonest 13 = .ok (.iload_n 2, 1) := by decide +kernel
theorem dX13_soonest_14 : decode cX13_soonest 14 = .ok (.aload_n 0, 1) := by decide +kernel
theorem dX13_soonest_15 : decode cX13_soonest 15 = .ok (.getfield 98, 3) := by decide +kernel
theorem dX13_soonest_18 : decode cX13_soonest 18 = .ok (.iconst 1, 1) := by decide +kernel
theorem dX13_soonest_19 : decode cX13_soonest 19 = .ok (.iaload, 1) := by decide +kernel
theorem dX13_soonest_20 : decode cX13_soonest 20 = .ok (.if_icmp .ge 41, 3) := by decide +kernel
theorem dX13_soonest_23 : decode cX13_soonest 23 = .ok (.aload_n 0, 1) := by decide +kernel
theorem dX13_soonest_24 : decode cX13_soonest 24 = .ok (.getfield 127, 3) := by decide +kernel
theorem dX13_soonest_27 : decode cX13_soonest 27 = .ok (.iload_n 2, 1) := by decide +kernel
theorem dX13_soonest_28 : decode cX13_soonest 28 = .ok (.iaload, 1) := by decide +kernel
theorem dX13_soonest_29 : decode cX13_soonest 29 = .ok (.iconst (-1), 1) := by decide +kernel
theorem dX13_soonest_30 : decode cX13_soonest 30 = .ok (.if_icmp .eq 25, 3) := by decide +kernel
theorem dX13_soonest_33 : decode cX13_soonest 33 = .ok (.iload_n 1, 1) := by decide +kernel
theorem dX13_soonest_34 : decode cX13_soonest 34 = .ok (.iconst (-1), 1) := by decide +kernel
theorem dX13_soonest_35 : decode cX13_soonest 35 = .ok (.if_icmp .eq 18, 3) := by decide +kernel
theorem dX13_soonest_38 : decode cX13_soonest 38 = .ok (.aload_n 0, 1) := by decide +kernel
theorem dX13_soonest_39 : decode cX13_soonest 39 = .ok (.getfield 127, 3) := by decide +kernel
theorem dX13_soonest_42 : decode cX13_soonest 42 = .ok (.iload_n 2, 1) := by decide +kernel
theorem dX13_soonest_43 : decode cX13_soonest 43 = .ok (.iaload, 1) := by decide +kernel
theorem dX13_soonest_44 : decode cX13_soonest 44 = .ok (.aload_n 0, 1) := by decide +kernel
theorem dX13_soonest_45 : decode cX13_soonest 45 = .ok (.getfield 127, 3) := by decide +kernel
theorem dX13_soonest_48 : decode cX13_soonest 48 = .ok (.iload_n 1, 1) := by decide +kernel
theorem dX13_soonest_49 : decode cX13_soonest 49 = .ok (.iaload, 1) := by decide +kernel
theorem dX13_soonest_50 : decode cX13_soonest 50 = .ok (.if_icmp .ge 5, 3) := by decide +kernel
theorem dX13_soonest_53 : decode cX13_soonest 53 = .ok (.iload_n 2, 1) := by decide +kernel
theorem dX13_soonest_54 : decode cX13_soonest 54 = .ok (.istore_n 1, 1) := by decide +kernel
theorem dX13_soonest_55 : decode cX13_soonest 55 = .ok (.iinc 2 1, 3) := by decide +kernel
theorem dX13_soonest_58 : decode cX13_soonest 58 = .ok (.goto (-45), 3) := by decide +kernel
theorem dX13_soonest_61 : decode cX13_soonest 61 = .ok (.iload_n 1, 1) := by decide +kernel
theorem dX13_soonest_62 : decode cX13_soonest 62 = .ok (.ireturn, 1) := by decide +kernel
theorem dX13_sleeper_0 : decode cX13_sleeper 0 = .ok (.aload_n 0, 1) := by decide +kernel
theorem dX13_sleeper_1 : decode cX13_sleeper 1 = .ok (.aload_n 0, 1) := by decide +kernel
theorem dX13_sleeper_2 : decode cX13_sleeper 2 = .ok (.getfield 98, 3) := by decide +kernel
theorem dX13_sleeper_5 : decode cX13_sleeper 5 = .ok (.bipush 56, 2) := by decide +kernel
theorem dX13_sleeper_7 : decode cX13_sleeper 7 = .ok (.iload_n 1, 1) := by decide +kernel
theorem dX13_sleeper_8 : decode cX13_sleeper 8 = .ok (.iadd, 1) := by decide +kernel
theorem dX13_sleeper_9 : decode cX13_sleeper 9 = .ok (.iaload, 1) := by decide +kernel
theorem dX13_sleeper_10 : decode cX13_sleeper 10 = .ok (.iload_n 2, 1) := by decide +kernel
theorem dX13_sleeper_11 : decode cX13_sleeper 11 = .ok (.invokevirtual 237, 3) := by decide +kernel
theorem dX13_sleeper_14 : decode cX13_sleeper 14 = .ok (.aload_n 0, 1) := by decide +kernel
theorem dX13_sleeper_15 : decode cX13_sleeper 15 = .ok (.getfield 98, 3) := by decide +kernel
theorem dX13_sleeper_18 : decode cX13_sleeper 18 = .ok (.iconst 4, 1) := by decide +kernel
theorem dX13_sleeper_19 : decode cX13_sleeper 19 = .ok (.iaload, 1) := by decide +kernel
theorem dX13_sleeper_20 : decode cX13_sleeper 20 = .ok (.if_icmp .lt 5, 3) := by decide +kernel
theorem dX13_sleeper_23 : decode cX13_sleeper 23 = .ok (.iconst 0, 1) := by decide +kernel
theorem dX13_sleeper_24 : decode cX13_sleeper 24 = .ok (.ireturn, 1) := by decide +kernel
theorem dX13_sleeper_25 : decode cX13_sleeper 25 = .ok (.aload_n 0, 1) := by decide +kernel
theorem dX13_sleeper_26 : decode cX13_sleeper 26 = .ok (.aload_n 0, 1) := by decide +kernel
theorem dX13_sleeper_27 : decode cX13_sleeper 27 = .ok (.getfield 98, 3) := by decide +kernel
theorem dX13_sleeper_30 : decode cX13_sleeper 30 = .ok (.bipush 60, 2) := by decide +kernel
theorem dX13_sleeper_32 : decode cX13_sleeper 32 = .ok (.iload_n 1, 1) := by decide +kernel
theorem dX13_sleeper_33 : decode cX13_sleeper 33 = .ok (.iadd, 1) := by decide +kernel
theorem dX13_sleeper_34 : decode cX13_sleeper 34 = .ok (.iaload, 1) := by decide +kernel
theorem dX13_sleeper_35 : decode cX13_sleeper 35 = .ok (.iload_n 2, 1) := by decide +kernel
theorem dX13_sleeper_36 : decode cX13_sleeper 36 = .ok (.invokevirtual 237, 3) := by decide +kernel
theorem dX13_sleeper_39 : decode cX13_sleeper 39 = .ok (.aload_n 0, 1) := by decide +kernel
theorem dX13_sleeper_40 : decode cX13_sleeper 40 = .ok (.getfield 98, 3) := by decide +kernel
theorem dX13_sleeper_43 : decode cX13_sleeper 43 = .ok (.iconst 4, 1) := by decide +kernel
theorem dX13_sleeper_44 : decode cX13_sleeper 44 = .ok (.iaload, 1) := by decide +kernel
theorem dX13_sleeper_45 : decode cX13_sleeper 45 = .ok (.if_icmp .lt 7, 3) := by decide +kernel
theorem dX13_sleeper_48 : decode cX13_sleeper 48 = .ok (.iconst 1, 1) := by decide +kernel
theorem dX13_sleeper_49 : decode cX13_sleeper 49 = .ok (.goto 4, 3) := by decide +kernel
theorem dX13_sleeper_52 : decode cX13_sleeper 52 = .ok (.iconst (-1), 1) := by decide +kernel
theorem dX13_sleeper_53 : decode cX13_sleeper 53 = .ok (.ireturn, 1) := by decide +kernel
theorem dX13_isTurned_0 : decode cX13_isTurned 0 = .ok (.aload_n 0, 1) := by decide +kernel
theorem dX13_isTurned_1 : decode cX13_isTurned 1 = .ok (.aload_n 0, 1) := by decide +kernel
theorem dX13_isTurned_2 : decode cX13_isTurned 2 = .ok (.getfield 98, 3) := by decide +kernel
theorem dX13_isTurned_5 : decode cX13_isTurned 5 = .ok (.bipush 56, 2) := by decide +kernel
theorem dX13_isTurned_7 : decode cX13_isTurned 7 = .ok (.iload_n 1, 1) := by decide +kernel
theorem dX13_isTurned_8 : decode cX13_isTurned 8 = .ok (.iadd, 1) := by decide +kernel
theorem dX13_isTurned_9 : decode cX13_isTurned 9 = .ok (.iaload, 1) := by decide +kernel
theorem dX13_isTurned_10 : decode cX13_isTurned 10 = .ok (.iload_n 2, 1) := by decide +kernel
theorem dX13_isTurned_11 : decode cX13_isTurned 11 = .ok (.invokevirtual 255, 3) := by decide +kernel
theorem dX13_isTurned_14 : decode cX13_isTurned 14 = .ok (.ifCond .ne 20, 3) := by decide +kernel
theorem dX13_isTurned_17 : decode cX13_isTurned 17 = .ok (.aload_n 0, 1) := by decide +kernel
theorem dX13_isTurned_18 : decode cX13_isTurned 18 = .ok (.aload_n 0, 1) := by decide +kernel
theorem dX13_isTurned_19 : decode cX13_isTurned 19 = .ok (.getfield 98, 3) := by decide +kernel
theorem dX13_isTurned_22 : decode cX13_isTurned 22 = .ok (.bipush 60, 2) := by decide +kernel
theorem dX13_isTurned_24 : decode cX13_isTurned 24 = .ok (.iload_n 1, 1) := by decide +kernel
theorem dX13_isTurned_25 : decode cX13_isTurned 25 = .ok (.iadd, 1) := by decide +kernel
theorem dX13_isTurned_26 : decode cX13_isTurned 26 = .ok (.iaload, 1) := by decide +kernel
theorem dX13_isTurned_27 : decode cX13_isTurned 27 = .ok (.iload_n 2, 1) := by decide +kernel
theorem dX13_isTurned_28 : decode cX13_isTurned 28 = .ok (.invokevirtual 255, 3) := by decide +kernel
theorem dX13_isTurned_31 : decode cX13_isTurned 31 = .ok (.ifCond .eq 7, 3) := by decide +kernel
theorem dX13_isTurned_34 : decode cX13_isTurned 34 = .ok (.iconst 1, 1) := by decide +kernel
theorem dX13_isTurned_35 : decode cX13_isTurned 35 = .ok (.goto 4, 3) := by decide +kernel
theorem dX13_isTurned_38 : decode cX13_isTurned 38 = .ok (.iconst 0, 1) := by decide +kernel
theorem dX13_isTurned_39 : decode cX13_isTurned 39 = .ok (.ireturn, 1) := by decide +kernel
theorem dX13_wakesAt_0 : decode cX13_wakesAt 0 = .ok (.aload_n 0, 1) := by decide +kernel
theorem dX13_wakesAt_1 : decode cX13_wakesAt 1 = .ok (.getfield 130, 3) := by decide +kernel
theorem dX13_wakesAt_4 : decode cX13_wakesAt 4 = .ok (.sipush 261, 3) := by decide +kernel
theorem dX13_wakesAt_7 : decode cX13_wakesAt 7 = .ok (.iload_n 1, 1) := by decide +kernel
theorem dX13_wakesAt_8 : decode cX13_wakesAt 8 = .ok (.imul, 1) := by decide +kernel
theorem dX13_wakesAt_9 : decode cX13_wakesAt 9 = .ok (.iload_n 2, 1) := by decide +kernel
theorem dX13_wakesAt_10 : decode cX13_wakesAt 10 = .ok (.iadd, 1) := by decide +kernel
theorem dX13_wakesAt_11 : decode cX13_wakesAt 11 = .ok (.iaload, 1) := by decide +kernel
theorem dX13_wakesAt_12 : decode cX13_wakesAt 12 = .ok (.ireturn, 1) := by decide +kernel
theorem dX13_waits_0 : decode cX13_waits 0 = .ok (.iload_n 2, 1) := by decide +kernel
theorem dX13_waits_1 : decode cX13_waits 1 = .ok (.iconst 1, 1) := by decide +kernel
theorem dX13_waits_2 : decode cX13_waits 2 = .ok (.iadd, 1) := by decide +kernel
theorem dX13_waits_3 : decode cX13_waits 3 = .ok (.aload_n 0, 1) := by decide +kernel
theorem dX13_waits_4 : decode cX13_waits 4 = .ok (.getfield 98, 3) := by decide +kernel
theorem dX13_waits_7 : decode cX13_waits 7 = .ok (.iconst 3, 1) := by decide +kernel
theorem dX13_waits_8 : decode cX13_waits 8 = .ok (.iaload, 1) := by decide +kernel
theorem dX13_waits_9 : decode cX13_waits 9 = .ok (.if_icmp .lt 9, 3) := by decide +kernel
theorem dX13_waits_12 : decode cX13_waits 12 = .ok (.ldc_w 327, 3) := by decide +kernel
theorem dX13_waits_15 : decode cX13_waits 15 = .ok (.goto 17, 3) := by decide +kernel
theorem dX13_waits_18 : decode cX13_waits 18 = .ok (.aload_n 0, 1) := by decide +kernel
theorem dX13_waits_19 : decode cX13_waits 19 = .ok (.iload_n 1, 1) := by decide +kernel
theorem dX13_waits_20 : decode cX13_waits 20 = .ok (.iconst 1, 1) := by decide +kernel
theorem dX13_waits_21 : decode cX13_waits 21 = .ok (.iadd, 1) := by decide +kernel
theorem dX13_waits_22 : decode cX13_waits 22 = .ok (.sipush 251, 3) := by decide +kernel
theorem dX13_waits_25 : decode cX13_waits 25 = .ok (.iload_n 2, 1) := by decide +kernel
theorem dX13_waits_26 : decode cX13_waits 26 = .ok (.iadd, 1) := by decide +kernel
theorem dX13_waits_27 : decode cX13_waits 27 = .ok (.iconst 1, 1) := by decide +kernel
theorem dX13_waits_28 : decode cX13_waits 28 = .ok (.iadd, 1) := by decide +kernel
theorem dX13_waits_29 : decode cX13_waits 29 = .ok (.invokevirtual 328, 3) := by decide +kernel
theorem dX13_waits_32 : decode cX13_waits 32 = .ok (.ireturn, 1) := by decide +kernel
theorem dX13_layWatch_0 : decode cX13_layWatch 0 = .ok (.aload_n 0, 1) := by decide +kernel
theorem dX13_layWatch_1 : decode cX13_layWatch 1 = .ok (.getfield 98, 3) := by decide +kernel
theorem dX13_layWatch_4 : decode cX13_layWatch 4 = .ok (.bipush 64, 2) := by decide +kernel
theorem dX13_layWatch_6 : decode cX13_layWatch 6 = .ok (.iload_n 1, 1) := by decide +kernel
theorem dX13_layWatch_7 : decode cX13_layWatch 7 = .ok (.iadd, 1) := by decide +kernel
theorem dX13_layWatch_8 : decode cX13_layWatch 8 = .ok (.iaload, 1) := by decide +kernel
theorem dX13_layWatch_9 : decode cX13_layWatch 9 = .ok (.istore_n 3, 1) := by decide +kernel
theorem dX13_layWatch_10 : decode cX13_layWatch 10 = .ok (.iconst 0, 1) := by decide +kernel
theorem dX13_layWatch_11 : decode cX13_layWatch 11 = .ok (.istore 4, 2) := by decide +kernel
theorem dX13_layWatch_13 : decode cX13_layWatch 13 = .ok (.iload 4, 2) := by decide +kernel
theorem dX13_layWatch_15 : decode cX13_layWatch 15 = .ok (.sipush 260, 3) := by decide +kernel
theorem dX13_layWatch_18 : decode cX13_layWatch 18 = .ok (.if_icmp .gt 23, 3) := by decide +kernel
theorem dX13_layWatch_21 : decode cX13_layWatch 21 = .ok (.aload_n 0, 1) := by decide +kernel
theorem dX13_layWatch_22 : decode cX13_layWatch 22 = .ok (.getfield 130, 3) := by decide +kernel
theorem dX13_layWatch_25 : decode cX13_layWatch 25 = .ok (.sipush 261, 3) := by decide +kernel
theorem dX13_layWatch_28 : decode cX13_layWatch 28 = .ok (.iload_n 2, 1) := by decide +kernel
theorem dX13_layWatch_29 : decode cX13_layWatch 29 = .ok (.imul, 1) := by decide +kernel
theorem dX13_layWatch_30 : decode cX13_layWatch 30 = .ok (.iload 4, 2) := by decide +kernel
theorem dX13_layWatch_32 : decode cX13_layWatch 32 = .ok (.iadd, 1) := by decide +kernel
theorem dX13_layWatch_33 : decode cX13_layWatch 33 = .ok (.iconst 0, 1) := by decide +kernel
theorem dX13_layWatch_34 : decode cX13_layWatch 34 = .ok (.iastore, 1) := by decide +kernel
theorem dX13_layWatch_35 : decode cX13_layWatch 35 = .ok (.iinc 4 1, 3) := by decide +kernel
theorem dX13_layWatch_38 : decode cX13_layWatch 38 = .ok (.goto (-25), 3) := by decide +kernel
theorem dX13_layWatch_41 : decode cX13_layWatch 41 = .ok (.iload_n 2, 1) := by decide +kernel
theorem dX13_layWatch_42 : decode cX13_layWatch 42 = .ok (.iconst 1, 1) := by decide +kernel
theorem dX13_layWatch_43 : decode cX13_layWatch 43 = .ok (.isub, 1) := by decide +kernel
theorem dX13_layWatch_44 : decode cX13_layWatch 44 = .ok (.istore 4, 2) := by decide +kernel
theorem dX13_layWatch_46 : decode cX13_layWatch 46 = .ok (.iload 4, 2) := by decide +kernel
theorem dX13_layWatch_48 : decode cX13_layWatch 48 = .ok (.ifCond .lt 202, 3) := by decide +kernel
theorem dX13_layWatch_51 : decode cX13_layWatch 51 = .ok (.aload_n 0, 1) := by decide +kernel
theorem dX13_layWatch_52 : decode cX13_layWatch 52 = .ok (.getfield 98, 3) := by decide +kernel
theorem dX13_layWatch_55 : decode cX13_layWatch 55 = .ok (.bipush 102, 2) := by decide +kernel
theorem dX13_layWatch_57 : decode cX13_layWatch 57 = .ok (.iaload, 1) := by decide +kernel
theorem dX13_layWatch_58 : decode cX13_layWatch 58 = .ok (.iload 4, 2) := by decide +kernel
theorem dX13_layWatch_60 : decode cX13_layWatch 60 = .ok (.iadd, 1) := by decide +kernel
theorem dX13_layWatch_61 : decode cX13_layWatch 61 = .ok (.istore 5, 2) := by decide +kernel
theorem dX13_layWatch_63 : decode cX13_layWatch 63 = .ok (.aload_n 0, 1) := by decide +kernel
theorem dX13_layWatch_64 : decode cX13_layWatch 64 = .ok (.iload_n 1, 1) := by decide +kernel
theorem dX13_layWatch_65 : decode cX13_layWatch 65 = .ok (.iload 5, 2) := by decide +kernel
theorem dX13_layWatch_67 : decode cX13_layWatch 67 = .ok (.invokevirtual 264, 3) := by decide +kernel
theorem dX13_layWatch_70 : decode cX13_layWatch 70 = .ok (.istore 6, 2) := by decide +kernel
theorem dX13_layWatch_72 : decode cX13_layWatch 72 = .ok (.iconst 1, 1) := by decide +kernel
theorem dX13_layWatch_73 : decode cX13_layWatch 73 = .ok (.istore 7, 2) := by decide +kernel
theorem dX13_layWatch_75 : decode cX13_layWatch 75 = .ok (.iload 7, 2) := by decide +kernel
theorem dX13_layWatch_77 : decode cX13_layWatch 77 = .ok (.sipush 250, 3) := by decide +kernel
theorem dX13_layWatch_80 : decode cX13_layWatch 80 = .ok (.if_icmp .gt 49, 3) := by decide +kernel
theorem dX13_layWatch_83 : decode cX13_layWatch 83 = .ok (.aload_n 0, 1) := by decide +kernel
theorem dX13_layWatch_84 : decode cX13_layWatch 84 = .ok (.getfield 130, 3) := by decide +kernel
theorem dX13_layWatch_87 : decode cX13_layWatch 87 = .ok (.sipush 261, 3) := by decide +kernel
theorem dX13_layWatch_90 : decode cX13_layWatch 90 = .ok (.iload 4, 2) := by decide +kernel
theorem dX13_layWatch_92 : decode cX13_layWatch 92 = .ok (.imul, 1) := by decide +kernel
theorem dX13_layWatch_93 : decode cX13_layWatch 93 = .ok (.iload 7, 2) := by decide +kernel
theorem dX13_layWatch_95 : decode cX13_layWatch 95 = .ok (.iadd, 1) := by decide +kernel
theorem dX13_layWatch_96 : decode cX13_layWatch 96 = .ok (.aload_n 0, 1) := by decide +kernel
theorem dX13_layWatch_97 : decode cX13_layWatch 97 = .ok (.iload 4, 2) := by decide +kernel
theorem dX13_layWatch_99 : decode cX13_layWatch 99 = .ok (.iconst 1, 1) := by decide +kernel
theorem dX13_layWatch_100 : decode cX13_layWatch 100 = .ok (.iadd, 1) := by decide +kernel
theorem dX13_layWatch_101 : decode cX13_layWatch 101 = .ok (.iload 7, 2) := by decide +kernel
theorem dX13_layWatch_103 : decode cX13_layWatch 103 = .ok (.iload 6, 2) := by decide +kernel
theorem dX13_layWatch_105 : decode cX13_layWatch 105 = .ok (.if_icmp .le 11, 3) := by decide +kernel
theorem dX13_layWatch_108 : decode cX13_layWatch 108 = .ok (.iload 7, 2) := by decide +kernel
theorem dX13_layWatch_110 : decode cX13_layWatch 110 = .ok (.iload 6, 2) := by decide +kernel
theorem dX13_layWatch_112 : decode cX13_layWatch 112 = .ok (.isub, 1) := by decide +kernel
theorem dX13_layWatch_113 : decode cX13_layWatch 113 = .ok (.goto 6, 3) := by decide +kernel
theorem dX13_layWatch_116 : decode cX13_layWatch 116 = .ok (.sipush 251, 3) := by decide +kernel
theorem dX13_layWatch_119 : decode cX13_layWatch 119 = .ok (.invokevirtual 328, 3) := by decide +kernel
theorem dX13_layWatch_122 : decode cX13_layWatch 122 = .ok (.iastore, 1) := by decide +kernel
theorem dX13_layWatch_123 : decode cX13_layWatch 123 = .ok (.iinc 7 1, 3) := by decide +kernel
theorem dX13_layWatch_126 : decode cX13_layWatch 126 = .ok (.goto (-51), 3) := by decide +kernel
theorem dX13_layWatch_129 : decode cX13_layWatch 129 = .ok (.aload_n 0, 1) := by decide +kernel
theorem dX13_layWatch_130 : decode cX13_layWatch 130 = .ok (.iload_n 1, 1) := by decide +kernel
theorem dX13_layWatch_131 : decode cX13_layWatch 131 = .ok (.iload 5, 2) := by decide +kernel
theorem dX13_layWatch_133 : decode cX13_layWatch 133 = .ok (.invokevirtual 331, 3) := by decide +kernel
theorem dX13_layWatch_136 : decode cX13_layWatch 136 = .ok (.istore 7, 2) := by decide +kernel
theorem dX13_layWatch_138 : decode cX13_layWatch 138 = .ok (.aload_n 0, 1) := by decide +kernel
theorem dX13_layWatch_139 : decode cX13_layWatch 139 = .ok (.iload_n 1, 1) := by decide +kernel
theorem dX13_layWatch_140 : decode cX13_layWatch 140 = .ok (.iload 5, 2) := by decide +kernel
theorem dX13_layWatch_142 : decode cX13_layWatch 142 = .ok (.invokevirtual 334, 3) := by decide +kernel
theorem dX13_layWatch_145 : decode cX13_layWatch 145 = .ok (.iconst (-1), 1) := by decide +kernel
theorem dX13_layWatch_146 : decode cX13_layWatch 146 = .ok (.if_icmp .eq 7, 3) := by decide +kernel
theorem dX13_layWatch_149 : decode cX13_layWatch 149 = .ok (.iconst 1, 1) := by decide +kernel
theorem dX13_layWatch_150 : decode cX13_layWatch 150 = .ok (.goto 4, 3) := by decide +kernel
theorem dX13_layWatch_153 : decode cX13_layWatch 153 = .ok (.iconst 0, 1) := by decide +kernel
theorem dX13_layWatch_154 : decode cX13_layWatch 154 = .ok (.istore 8, 2) := by decide +kernel
theorem dX13_layWatch_156 : decode cX13_layWatch 156 = .ok (.aload_n 0, 1) := by decide +kernel
theorem dX13_layWatch_157 : decode cX13_layWatch 157 = .ok (.iload 4, 2) := by decide +kernel
theorem dX13_layWatch_159 : decode cX13_layWatch 159 = .ok (.iconst 1, 1) := by decide +kernel
theorem dX13_layWatch_160 : decode cX13_layWatch 160 = .ok (.iadd, 1) := by decide +kernel
theorem dX13_layWatch_161 : decode cX13_layWatch 161 = .ok (.iload_n 3, 1) := by decide +kernel
theorem dX13_layWatch_162 : decode cX13_layWatch 162 = .ok (.invokevirtual 328, 3) := by decide +kernel
theorem dX13_layWatch_165 : decode cX13_layWatch 165 = .ok (.iconst 1, 1) := by decide +kernel
theorem dX13_layWatch_166 : decode cX13_layWatch 166 = .ok (.iadd, 1) := by decide +kernel
theorem dX13_layWatch_167 : decode cX13_layWatch 167 = .ok (.istore 9, 2) := by decide +kernel
theorem dX13_layWatch_169 : decode cX13_layWatch 169 = .ok (.iconst 0, 1) := by decide +kernel
theorem dX13_layWatch_170 : decode cX13_layWatch 170 = .ok (.istore 10, 2) := by decide +kernel
theorem dX13_layWatch_172 : decode cX13_layWatch 172 = .ok (.iload 10, 2) := by decide +kernel
theorem dX13_layWatch_174 : decode cX13_layWatch 174 = .ok (.bipush 9, 2) := by decide +kernel
theorem dX13_layWatch_176 : decode cX13_layWatch 176 = .ok (.if_icmp .ge 68, 3) := by decide +kernel
theorem dX13_layWatch_179 : decode cX13_layWatch 179 = .ok (.aload_n 0, 1) := by decide +kernel
theorem dX13_layWatch_180 : decode cX13_layWatch 180 = .ok (.getfield 130, 3) := by decide +kernel
theorem dX13_layWatch_183 : decode cX13_layWatch 183 = .ok (.sipush 261, 3) := by decide +kernel
theorem dX13_layWatch_186 : decode cX13_layWatch 186 = .ok (.iload 4, 2) := by decide +kernel
theorem dX13_layWatch_188 : decode cX13_layWatch 188 = .ok (.imul, 1) := by decide +kernel
theorem dX13_layWatch_189 : decode cX13_layWatch 189 = .ok (.sipush 251, 3) := by decide +kernel
theorem dX13_layWatch_192 : decode cX13_layWatch 192 = .ok (.iadd, 1) := by decide +kernel
theorem dX13_layWatch_193 : decode cX13_layWatch 193 = .ok (.iload 10, 2) := by decide +kernel
theorem dX13_layWatch_195 : decode cX13_layWatch 195 = .ok (.iadd, 1) := by decide +kernel
theorem dX13_layWatch_196 : decode cX13_layWatch 196 = .ok (.iload 7, 2) := by decide +kernel
theorem dX13_layWatch_198 : decode cX13_layWatch 198 = .ok (.ifCond .eq 10, 3) := by decide +kernel
theorem dX13_layWatch_201 : decode cX13_layWatch 201 = .ok (.iload 9, 2) := by decide +kernel
theorem dX13_layWatch_203 : decode cX13_layWatch 203 = .ok (.iconst 1, 1) := by decide +kernel
theorem dX13_layWatch_204 : decode cX13_layWatch 204 = .ok (.isub, 1) := by decide +kernel
theorem dX13_layWatch_205 : decode cX13_layWatch 205 = .ok (.goto 32, 3) := by decide +kernel
theorem dX13_layWatch_208 : decode cX13_layWatch 208 = .ok (.iload 8, 2) := by decide +kernel
theorem dX13_layWatch_210 : decode cX13_layWatch 210 = .ok (.ifCond .eq 19, 3) := by decide +kernel
theorem dX13_layWatch_213 : decode cX13_layWatch 213 = .ok (.iload 9, 2) := by decide +kernel
theorem dX13_layWatch_215 : decode cX13_layWatch 215 = .ok (.aload_n 0, 1) := by decide +kernel
theorem dX13_layWatch_216 : decode cX13_layWatch 216 = .ok (.iload 4, 2) := by decide +kernel
theorem dX13_layWatch_218 : decode cX13_layWatch 218 = .ok (.iload 10, 2) := by decide +kernel
theorem dX13_layWatch_220 : decode cX13_layWatch 220 = .ok (.invokevirtual 337, 3) := by decide +kernel
theorem dX13_layWatch_223 : decode cX13_layWatch 223 = .ok (.invokestatic 227, 3) := by decide +kernel
theorem dX13_layWatch_226 : decode cX13_layWatch 226 = .ok (.goto 11, 3) := by decide +kernel
theorem dX13_layWatch_229 : decode cX13_layWatch 229 = .ok (.aload_n 0, 1) := by decide +kernel
theorem dX13_layWatch_230 : decode cX13_layWatch 230 = .ok (.iload 4, 2) := by decide +kernel
theorem dX13_layWatch_232 : decode cX13_layWatch 232 = .ok (.iload 10, 2) := by decide +kernel
theorem dX13_layWatch_234 : decode cX13_layWatch 234 = .ok (.invokevirtual 337, 3) := by decide +kernel
theorem dX13_layWatch_237 : decode cX13_layWatch 237 = .ok (.iastore, 1) := by decide +kernel
theorem dX13_layWatch_238 : decode cX13_layWatch 238 = .ok (.iinc 10 1, 3) := by decide +kernel
theorem dX13_layWatch_241 : decode cX13_layWatch 241 = .ok (.goto (-69), 3) := by decide +kernel
theorem dX13_layWatch_244 : decode cX13_layWatch 244 = .ok (.iinc 4 (-1), 3) := by decide +kernel
theorem dX13_layWatch_247 : decode cX13_layWatch 247 = .ok (.goto (-201), 3) := by decide +kernel
theorem dX13_layWatch_250 : decode cX13_layWatch 250 = .ok (.return_, 1) := by decide +kernel
theorem dX13_watch_0 : decode cX13_watch 0 = .ok (.aload_n 0, 1) := by decide +kernel
theorem dX13_watch_1 : decode cX13_watch 1 = .ok (.iconst 0, 1) := by decide +kernel
theorem dX13_watch_2 : decode cX13_watch 2 = .ok (.putfield 1, 3) := by decide +kernel
theorem dX13_watch_5 : decode cX13_watch 5 = .ok (.aload_n 0, 1) := by decide +kernel
theorem dX13_watch_6 : decode cX13_watch 6 = .ok (.iload_n 1, 1) := by decide +kernel
theorem dX13_watch_7 : decode cX13_watch 7 = .ok (.invokevirtual 258, 3) := by decide +kernel
theorem dX13_watch_10 : decode cX13_watch 10 = .ok (.ifCond .eq 21, 3) := by decide +kernel
theorem dX13_watch_13 : decode cX13_watch 13 = .ok (.aload_n 0, 1) := by decide +kernel
theorem dX13_watch_14 : decode cX13_watch 14 = .ok (.iload_n 1, 1) := by decide +kernel
theorem dX13_watch_15 : decode cX13_watch 15 = .ok (.invokevirtual 261, 3) := by decide +kernel
theorem dX13_watch_18 : decode cX13_watch 18 = .ok (.ifCond .ne 13, 3) := by decide +kernel
theorem dX13_watch_21 : decode cX13_watch 21 = .ok (.iload_n 2, 1) := by decide +kernel
theorem dX13_watch_22 : decode cX13_watch 22 = .ok (.iconst 1, 1) := by decide +kernel
theorem dX13_watch_23 : decode cX13_watch 23 = .ok (.bipush 60, 2) := by decide +kernel
theorem dX13_watch_25 : decode cX13_watch 25 = .ok (.invokestatic 75, 3) := by decide +kernel
theorem dX13_watch_28 : decode cX13_watch 28 = .ok (.ifCond .ne 5, 3) := by decide +kernel
theorem dX13_watch_31 : decode cX13_watch 31 = .ok (.iconst (-1), 1) := by decide +kernel
theorem dX13_watch_32 : decode cX13_watch 32 = .ok (.ireturn, 1) := by decide +kernel
theorem dX13_watch_33 : decode cX13_watch 33 = .ok (.iload_n 2, 1) := by decide +kernel
theorem dX13_watch_34 : decode cX13_watch 34 = .ok (.sipush 600, 3) := by decide +kernel
theorem dX13_watch_37 : decode cX13_watch 37 = .ok (.aload_n 0, 1) := by decide +kernel
theorem dX13_watch_38 : decode cX13_watch 38 = .ok (.getfield 98, 3) := by decide +kernel
theorem dX13_watch_41 : decode cX13_watch 41 = .ok (.bipush 102, 2) := by decide +kernel
theorem dX13_watch_43 : decode cX13_watch 43 = .ok (.iaload, 1) := by decide +kernel
theorem dX13_watch_44 : decode cX13_watch 44 = .ok (.isub, 1) := by decide +kernel
theorem dX13_watch_45 : decode cX13_watch 45 = .ok (.invokestatic 227, 3) := by decide +kernel
theorem dX13_watch_48 : decode cX13_watch 48 = .ok (.istore_n 3, 1) := by decide +kernel
theorem dX13_watch_49 : decode cX13_watch 49 = .ok (.aload_n 0, 1) := by decide +kernel
theorem dX13_watch_50 : decode cX13_watch 50 = .ok (.iload_n 1, 1) := by decide +kernel
theorem dX13_watch_51 : decode cX13_watch 51 = .ok (.iload_n 3, 1) := by decide +kernel
theorem dX13_watch_52 : decode cX13_watch 52 = .ok (.invokevirtual 340, 3) := by decide +kernel
theorem dX13_watch_55 : decode cX13_watch 55 = .ok (.aload_n 0, 1) := by decide +kernel
theorem dX13_watch_56 : decode cX13_watch 56 = .ok (.getfield 98, 3) := by decide +kernel
theorem dX13_watch_59 : decode cX13_watch 59 = .ok (.bipush 125, 2) := by decide +kernel
theorem dX13_watch_61 : decode cX13_watch 61 = .ok (.iload_n 1, 1) := by decide +kernel
theorem dX13_watch_62 : decode cX13_watch 62 = .ok (.iadd, 1) := by decide +kernel
theorem dX13_watch_63 : decode cX13_watch 63 = .ok (.iaload, 1) := by decide +kernel
theorem dX13_watch_64 : decode cX13_watch 64 = .ok (.ifCond .le 15, 3) := by decide +kernel
theorem dX13_watch_67 : decode cX13_watch 67 = .ok (.aload_n 0, 1) := by decide +kernel
theorem dX13_watch_68 : decode cX13_watch 68 = .ok (.getfield 98, 3) := by decide +kernel
theorem dX13_watch_71 : decode cX13_watch 71 = .ok (.bipush 125, 2) := by decide +kernel
theorem dX13_watch_73 : decode cX13_watch 73 = .ok (.iload_n 1, 1) := by decide +kernel
theorem dX13_watch_74 : decode cX13_watch 74 = .ok (.iadd, 1) := by decide +kernel
theorem dX13_watch_75 : decode cX13_watch 75 = .ok (.iaload, 1) := by decide +kernel
theorem dX13_watch_76 : decode cX13_watch 76 = .ok (.goto 17, 3) := by decide +kernel
theorem dX13_watch_79 : decode cX13_watch 79 = .ok (.sipush 251, 3) := by decide +kernel
theorem dX13_watch_82 : decode cX13_watch 82 = .ok (.aload_n 0, 1) := by decide +kernel
theorem dX13_watch_83 : decode cX13_watch 83 = .ok (.getfield 98, 3) := by decide +kernel
theorem dX13_watch_86 : decode cX13_watch 86 = .ok (.sipush 133, 3) := by decide +kernel
theorem dX13_watch_89 : decode cX13_watch 89 = .ok (.iload_n 1, 1) := by decide +kernel
theorem dX13_watch_90 : decode cX13_watch 90 = .ok (.iadd, 1) := by decide +kernel
theorem dX13_watch_91 : decode cX13_watch 91 = .ok (.iaload, 1) := by decide +kernel
theorem dX13_watch_92 : decode cX13_watch 92 = .ok (.iadd, 1) := by decide +kernel
theorem dX13_watch_93 : decode cX13_watch 93 = .ok (.istore 4, 2) := by decide +kernel
theorem dX13_watch_95 : decode cX13_watch 95 = .ok (.aload_n 0, 1) := by decide +kernel
theorem dX13_watch_96 : decode cX13_watch 96 = .ok (.iconst 0, 1) := by decide +kernel
theorem dX13_watch_97 : decode cX13_watch 97 = .ok (.iload 4, 2) := by decide +kernel
theorem dX13_watch_99 : decode cX13_watch 99 = .ok (.invokevirtual 328, 3) := by decide +kernel
theorem dX13_watch_102 : decode cX13_watch 102 = .ok (.istore 5, 2) := by decide +kernel
theorem dX13_watch_104 : decode cX13_watch 104 = .ok (.iload 5, 2) := by decide +kernel
theorem dX13_watch_106 : decode cX13_watch 106 = .ok (.ldc_w 327, 3) := by decide +kernel
theorem dX13_watch_109 : decode cX13_watch 109 = .ok (.if_icmp .lt 5, 3) := by decide +kernel
theorem dX13_watch_112 : decode cX13_watch 112 = .ok (.iconst (-1), 1) := by decide +kernel
theorem dX13_watch_113 : decode cX13_watch 113 = .ok (.ireturn, 1) := by decide +kernel
theorem dX13_watch_114 : decode cX13_watch 114 = .ok (.aload_n 0, 1) := by decide +kernel
theorem dX13_watch_115 : decode cX13_watch 115 = .ok (.iconst 0, 1) := by decide +kernel
theorem dX13_watch_116 : decode cX13_watch 116 = .ok (.putfield 343, 3) := by decide +kernel
theorem dX13_watch_119 : decode cX13_watch 119 = .ok (.iconst 0, 1) := by decide +kernel
theorem dX13_watch_120 : decode cX13_watch 120 = .ok (.istore 6, 2) := by decide +kernel
theorem dX13_watch_122 : decode cX13_watch 122 = .ok (.iload 6, 2) := by decide +kernel
theorem dX13_watch_124 : decode cX13_watch 124 = .ok (.iload_n 3, 1) := by decide +kernel
theorem dX13_watch_125 : decode cX13_watch 125 = .ok (.if_icmp .ge 157, 3) := by decide +kernel
theorem dX13_watch_128 : decode cX13_watch 128 = .ok (.aload_n 0, 1) := by decide +kernel
theorem dX13_watch_129 : decode cX13_watch 129 = .ok (.getfield 98, 3) := by decide +kernel
theorem dX13_watch_132 : decode cX13_watch 132 = .ok (.bipush 102, 2) := by decide +kernel
theorem dX13_watch_134 : decode cX13_watch 134 = .ok (.iaload, 1) := by decide +kernel
theorem dX13_watch_135 : decode cX13_watch 135 = .ok (.iload 6, 2) := by decide +kernel
theorem dX13_watch_137 : decode cX13_watch 137 = .ok (.iadd, 1) := by decide +kernel
theorem dX13_watch_138 : decode cX13_watch 138 = .ok (.istore 7, 2) := by decide +kernel
theorem dX13_watch_140 : decode cX13_watch 140 = .ok (.iload 4, 2) := by decide +kernel
theorem dX13_watch_142 : decode cX13_watch 142 = .ok (.sipush 250, 3) := by decide +kernel
theorem dX13_watch_145 : decode cX13_watch 145 = .ok (.if_icmp .gt 35, 3) := by decide +kernel
theorem dX13_watch_148 : decode cX13_watch 148 = .ok (.aload_n 0, 1) := by decide +kernel
theorem dX13_watch_149 : decode cX13_watch 149 = .ok (.iload_n 1, 1) := by decide +kernel
theorem dX13_watch_150 : decode cX13_watch 150 = .ok (.iload 7, 2) := by decide +kernel
theorem dX13_watch_152 : decode cX13_watch 152 = .ok (.invokevirtual 264, 3) := by decide +kernel
theorem dX13_watch_155 : decode cX13_watch 155 = .ok (.istore 8, 2) := by decide +kernel
theorem dX13_watch_157 : decode cX13_watch 157 = .ok (.iload 4, 2) := by decide +kernel
theorem dX13_watch_159 : decode cX13_watch 159 = .ok (.iload 8, 2) := by decide +kernel
theorem dX13_watch_161 : decode cX13_watch 161 = .ok (.if_icmp .le 11, 3) := by decide +kernel
theorem dX13_watch_164 : decode cX13_watch 164 = .ok (.iload 4, 2) := by decide +kernel
theorem dX13_watch_166 : decode cX13_watch 166 = .ok (.iload 8, 2) := by decide +kernel
theorem dX13_watch_168 : decode cX13_watch 168 = .ok (.isub, 1) := by decide +kernel
theorem dX13_watch_169 : decode cX13_watch 169 = .ok (.goto 6, 3) := by decide +kernel
theorem dX13_watch_172 : decode cX13_watch 172 = .ok (.sipush 251, 3) := by decide +kernel
theorem dX13_watch_175 : decode cX13_watch 175 = .ok (.istore 4, 2) := by decide +kernel
theorem dX13_watch_177 : decode cX13_watch 177 = .ok (.goto 99, 3) := by decide +kernel
theorem dX13_watch_180 : decode cX13_watch 180 = .ok (.aload_n 0, 1) := by decide +kernel
theorem dX13_watch_181 : decode cX13_watch 181 = .ok (.iload_n 1, 1) := by decide +kernel
theorem dX13_watch_182 : decode cX13_watch 182 = .ok (.iload 7, 2) := by decide +kernel
theorem dX13_watch_184 : decode cX13_watch 184 = .ok (.invokevirtual 331, 3) := by decide +kernel
theorem dX13_watch_187 : decode cX13_watch 187 = .ok (.ifCond .eq 17, 3) := by decide +kernel
theorem dX13_watch_190 : decode cX13_watch 190 = .ok (.aload_n 0, 1) := by decide +kernel
theorem dX13_watch_191 : decode cX13_watch 191 = .ok (.getfield 98, 3) := by decide +kernel
theorem dX13_watch_194 : decode cX13_watch 194 = .ok (.bipush 64, 2) := by decide +kernel
theorem dX13_watch_196 : decode cX13_watch 196 = .ok (.iload_n 1, 1) := by decide +kernel
theorem dX13_watch_197 : decode cX13_watch 197 = .ok (.iadd, 1) := by decide +kernel
theorem dX13_watch_198 : decode cX13_watch 198 = .ok (.iaload, 1) := by decide +kernel
theorem dX13_watch_199 : decode cX13_watch 199 = .ok (.istore 4, 2) := by decide +kernel
theorem dX13_watch_201 : decode cX13_watch 201 = .ok (.goto 75, 3) := by decide +kernel
theorem dX13_watch_204 : decode cX13_watch 204 = .ok (.aload_n 0, 1) := by decide +kernel
theorem dX13_watch_205 : decode cX13_watch 205 = .ok (.iload 6, 2) := by decide +kernel
theorem dX13_watch_207 : decode cX13_watch 207 = .ok (.iload 4, 2) := by decide +kernel
theorem dX13_watch_209 : decode cX13_watch 209 = .ok (.sipush 251, 3) := by decide +kernel
theorem dX13_watch_212 : decode cX13_watch 212 = .ok (.isub, 1) := by decide +kernel
theorem dX13_watch_213 : decode cX13_watch 213 = .ok (.invokevirtual 337, 3) := by decide +kernel
theorem dX13_watch_216 : decode cX13_watch 216 = .ok (.aload_n 0, 1) := by decide +kernel
theorem dX13_watch_217 : decode cX13_watch 217 = .ok (.iload 6, 2) := by decide +kernel
theorem dX13_watch_219 : decode cX13_watch 219 = .ok (.iload 4, 2) := by decide +kernel
theorem dX13_watch_221 : decode cX13_watch 221 = .ok (.invokevirtual 328, 3) := by decide +kernel
theorem dX13_watch_224 : decode cX13_watch 224 = .ok (.if_icmp .ne 9, 3) := by decide +kernel
theorem dX13_watch_227 : decode cX13_watch 227 = .ok (.iinc 4 1, 3) := by decide +kernel
theorem dX13_watch_230 : decode cX13_watch 230 = .ok (.goto 46, 3) := by decide +kernel
theorem dX13_watch_233 : decode cX13_watch 233 = .ok (.aload_n 0, 1) := by decide +kernel
theorem dX13_watch_234 : decode cX13_watch 234 = .ok (.getfield 133, 3) := by decide +kernel
theorem dX13_watch_237 : decode cX13_watch 237 = .ok (.aload_n 0, 1) := by decide +kernel
theorem dX13_watch_238 : decode cX13_watch 238 = .ok (.getfield 343, 3) := by decide +kernel
theorem dX13_watch_241 : decode cX13_watch 241 = .ok (.bipush 10, 2) := by decide +kernel
theorem dX13_watch_243 : decode cX13_watch 243 = .ok (.iload 7, 2) := by decide +kernel
theorem dX13_watch_245 : decode cX13_watch 245 = .ok (.imul, 1) := by decide +kernel
theorem dX13_watch_246 : decode cX13_watch 246 = .ok (.aload_n 0, 1) := by decide +kernel
theorem dX13_watch_247 : decode cX13_watch 247 = .ok (.iload_n 1, 1) := by decide +kernel
theorem dX13_watch_248 : decode cX13_watch 248 = .ok (.iload 7, 2) := by decide +kernel
theorem dX13_watch_250 : decode cX13_watch 250 = .ok (.invokevirtual 334, 3) := by decide +kernel
theorem dX13_watch_253 : decode cX13_watch 253 = .ok (.iadd, 1) := by decide +kernel
theorem dX13_watch_254 : decode cX13_watch 254 = .ok (.iastore, 1) := by decide +kernel
theorem dX13_watch_255 : decode cX13_watch 255 = .ok (.aload_n 0, 1) := by decide +kernel
theorem dX13_watch_256 : decode cX13_watch 256 = .ok (.dup, 1) := by decide +kernel
theorem dX13_watch_257 : decode cX13_watch 257 = .ok (.getfield 343, 3) := by decide +kernel
theorem dX13_watch_260 : decode cX13_watch 260 = .ok (.iconst 1, 1) := by decide +kernel
theorem dX13_watch_261 : decode cX13_watch 261 = .ok (.iadd, 1) := by decide +kernel
theorem dX13_watch_262 : decode cX13_watch 262 = .ok (.putfield 343, 3) := by decide +kernel
theorem dX13_watch_265 : decode cX13_watch 265 = .ok (.aload_n 0, 1) := by decide +kernel
theorem dX13_watch_266 : decode cX13_watch 266 = .ok (.getfield 98, 3) := by decide +kernel
theorem dX13_watch_269 : decode cX13_watch 269 = .ok (.bipush 64, 2) := by decide +kernel
theorem dX13_watch_271 : decode cX13_watch 271 = .ok (.iload_n 1, 1) := by decide +kernel
theorem dX13_watch_272 : decode cX13_watch 272 = .ok (.iadd, 1) := by decide +kernel
theorem dX13_watch_273 : decode cX13_watch 273 = .ok (.iaload, 1) := by decide +kernel
theorem dX13_watch_274 : decode cX13_watch 274 = .ok (.istore 4, 2) := by decide +kernel
theorem dX13_watch_276 : decode cX13_watch 276 = .ok (.iinc 6 1, 3) := by decide +kernel
theorem dX13_watch_279 : decode cX13_watch 279 = .ok (.goto (-157), 3) := by decide +kernel
theorem dX13_watch_282 : decode cX13_watch 282 = .ok (.iload 5, 2) := by decide +kernel
theorem dX13_watch_284 : decode cX13_watch 284 = .ok (.ireturn, 1) := by decide +kernel
theorem dX13_waking_0 : decode cX13_waking 0 = .ok (.aload_n 0, 1) := by decide +kernel
theorem dX13_waking_1 : decode cX13_waking 1 = .ok (.iconst 0, 1) := by decide +kernel
theorem dX13_waking_2 : decode cX13_waking 2 = .ok (.putfield 1, 3) := by decide +kernel
theorem dX13_waking_5 : decode cX13_waking 5 = .ok (.iload_n 1, 1) := by decide +kernel
theorem dX13_waking_6 : decode cX13_waking 6 = .ok (.iconst 0, 1) := by decide +kernel
theorem dX13_waking_7 : decode cX13_waking 7 = .ok (.aload_n 0, 1) := by decide +kernel
theorem dX13_waking_8 : decode cX13_waking 8 = .ok (.getfield 343, 3) := by decide +kernel
theorem dX13_waking_11 : decode cX13_waking 11 = .ok (.iconst 1, 1) := by decide +kernel
theorem dX13_waking_12 : decode cX13_waking 12 = .ok (.isub, 1) := by decide +kernel
theorem dX13_waking_13 : decode cX13_waking 13 = .ok (.invokestatic 75, 3) := by decide +kernel
theorem dX13_waking_16 : decode cX13_waking 16 = .ok (.ifCond .eq 12, 3) := by decide +kernel
theorem dX13_waking_19 : decode cX13_waking 19 = .ok (.aload_n 0, 1) := by decide +kernel
theorem dX13_waking_20 : decode cX13_waking 20 = .ok (.getfield 133, 3) := by decide +kernel
theorem dX13_waking_23 : decode cX13_waking 23 = .ok (.iload_n 1, 1) := by decide +kernel
theorem dX13_waking_24 : decode cX13_waking 24 = .ok (.iaload, 1) := by decide +kernel
theorem dX13_waking_25 : decode cX13_waking 25 = .ok (.goto 4, 3) := by decide +kernel
theorem dX13_waking_28 : decode cX13_waking 28 = .ok (.iconst (-1), 1) := by decide +kernel
theorem dX13_waking_29 : decode cX13_waking 29 = .ok (.ireturn, 1) := by decide +kernel
theorem dX13_isChosen_0 : decode cX13_isChosen 0 = .ok (.aload_n 0, 1) := by decide +kernel
theorem dX13_isChosen_1 : decode cX13_isChosen 1 = .ok (.iload_n 1, 1) := by decide +kernel
theorem dX13_isChosen_2 : decode cX13_isChosen 2 = .ok (.iload_n 2, 1) := by decide +kernel
theorem dX13_isChosen_3 : decode cX13_isChosen 3 = .ok (.invokevirtual 312, 3) := by decide +kernel
theorem dX13_isChosen_6 : decode cX13_isChosen 6 = .ok (.istore_n 3, 1) := by decide +kernel
theorem dX13_isChosen_7 : decode cX13_isChosen 7 = .ok (.iload_n 3, 1) := by decide +kernel
theorem dX13_isChosen_8 : decode cX13_isChosen 8 = .ok (.iconst (-1), 1) := by decide +kernel
theorem dX13_isChosen_9 : decode cX13_isChosen 9 = .ok (.if_icmp .eq 41, 3) := by decide +kernel
theorem dX13_isChosen_12 : decode cX13_isChosen 12 = .ok (.aload_n 0, 1) := by decide +kernel
theorem dX13_isChosen_13 : decode cX13_isChosen 13 = .ok (.aload_n 0, 1) := by decide +kernel
theorem dX13_isChosen_14 : decode cX13_isChosen 14 = .ok (.getfield 98, 3) := by decide +kernel
theorem dX13_isChosen_17 : decode cX13_isChosen 17 = .ok (.bipush 56, 2) := by decide +kernel
theorem dX13_isChosen_19 : decode cX13_isChosen 19 = .ok (.iload_n 1, 1) := by decide +kernel
theorem dX13_isChosen_20 : decode cX13_isChosen 20 = .ok (.iadd, 1) := by decide +kernel
theorem dX13_isChosen_21 : decode cX13_isChosen 21 = .ok (.iaload, 1) := by decide +kernel
theorem dX13_isChosen_22 : decode cX13_isChosen 22 = .ok (.iload_n 3, 1) := by decide +kernel
theorem dX13_isChosen_23 : decode cX13_isChosen 23 = .ok (.invokevirtual 255, 3) := by decide +kernel
theorem dX13_isChosen_26 : decode cX13_isChosen 26 = .ok (.ifCond .eq 24, 3) := by decide +kernel
theorem dX13_isChosen_29 : decode cX13_isChosen 29 = .ok (.aload_n 0, 1) := by decide +kernel
theorem dX13_isChosen_30 : decode cX13_isChosen 30 = .ok (.aload_n 0, 1) := by decide +kernel
theorem dX13_isChosen_31 : decode cX13_isChosen 31 = .ok (.getfield 98, 3) := by decide +kernel
theorem dX13_isChosen_34 : decode cX13_isChosen 34 = .ok (.bipush 60, 2) := by decide +kernel
theorem dX13_isChosen_36 : decode cX13_isChosen 36 = .ok (.iload_n 1, 1) := by decide +kernel
theorem dX13_isChosen_37 : decode cX13_isChosen 37 = .ok (.iadd, 1) := by decide +kernel
theorem dX13_isChosen_38 : decode cX13_isChosen 38 = .ok (.iaload, 1) := by decide +kernel
theorem dX13_isChosen_39 : decode cX13_isChosen 39 = .ok (.iload_n 3, 1) := by decide +kernel
theorem dX13_isChosen_40 : decode cX13_isChosen 40 = .ok (.invokevirtual 255, 3) := by decide +kernel
theorem dX13_isChosen_43 : decode cX13_isChosen 43 = .ok (.ifCond .eq 7, 3) := by decide +kernel
theorem dX13_isChosen_46 : decode cX13_isChosen 46 = .ok (.iconst 1, 1) := by decide +kernel
theorem dX13_isChosen_47 : decode cX13_isChosen 47 = .ok (.goto 4, 3) := by decide +kernel
theorem dX13_isChosen_50 : decode cX13_isChosen 50 = .ok (.iconst 0, 1) := by decide +kernel
theorem dX13_isChosen_51 : decode cX13_isChosen 51 = .ok (.ireturn, 1) := by decide +kernel
theorem dX13_chosen_0 : decode cX13_chosen 0 = .ok (.aload_n 0, 1) := by decide +kernel
theorem dX13_chosen_1 : decode cX13_chosen 1 = .ok (.iconst 0, 1) := by decide +kernel
theorem dX13_chosen_2 : decode cX13_chosen 2 = .ok (.putfield 1, 3) := by decide +kernel
theorem dX13_chosen_5 : decode cX13_chosen 5 = .ok (.aload_n 0, 1) := by decide +kernel
theorem dX13_chosen_6 : decode cX13_chosen 6 = .ok (.iload_n 1, 1) := by decide +kernel
theorem dX13_chosen_7 : decode cX13_chosen 7 = .ok (.invokevirtual 258, 3) := by decide +kernel
theorem dX13_chosen_10 : decode cX13_chosen 10 = .ok (.ifCond .eq 11, 3) := by decide +kernel
theorem dX13_chosen_13 : decode cX13_chosen 13 = .ok (.aload_n 0, 1) := by decide +kernel
theorem dX13_chosen_14 : decode cX13_chosen 14 = .ok (.iload_n 1, 1) := by decide +kernel
theorem dX13_chosen_15 : decode cX13_chosen 15 = .ok (.invokevirtual 261, 3) := by decide +kernel
theorem dX13_chosen_18 : decode cX13_chosen 18 = .ok (.ifCond .eq 5, 3) := by decide +kernel
theorem dX13_chosen_21 : decode cX13_chosen 21 = .ok (.iconst (-1), 1) := by decide +kernel
theorem dX13_chosen_22 : decode cX13_chosen 22 = .ok (.ireturn, 1) := by decide +kernel
theorem dX13_chosen_23 : decode cX13_chosen 23 = .ok (.sipush 250, 3) := by decide +kernel
theorem dX13_chosen_26 : decode cX13_chosen 26 = .ok (.istore_n 2, 1) := by decide +kernel
theorem dX13_chosen_27 : decode cX13_chosen 27 = .ok (.iload_n 2, 1) := by decide +kernel
theorem dX13_chosen_28 : decode cX13_chosen 28 = .ok (.ifCond .le 20, 3) := by decide +kernel
theorem dX13_chosen_31 : decode cX13_chosen 31 = .ok (.aload_n 0, 1) := by decide +kernel
theorem dX13_chosen_32 : decode cX13_chosen 32 = .ok (.iload_n 1, 1) := by decide +kernel
theorem dX13_chosen_33 : decode cX13_chosen 33 = .ok (.iload_n 2, 1) := by decide +kernel
theorem dX13_chosen_34 : decode cX13_chosen 34 = .ok (.invokevirtual 346, 3) := by decide +kernel
theorem dX13_chosen_37 : decode cX13_chosen 37 = .ok (.ifCond .eq 5, 3) := by decide +kernel
theorem dX13_chosen_40 : decode cX13_chosen 40 = .ok (.iload_n 2, 1) := by decide +kernel
theorem dX13_chosen_41 : decode cX13_chosen 41 = .ok (.ireturn, 1) := by decide +kernel
theorem dX13_chosen_42 : decode cX13_chosen 42 = .ok (.iinc 2 (-1), 3) := by decide +kernel
theorem dX13_chosen_45 : decode cX13_chosen 45 = .ok (.goto (-18), 3) := by decide +kernel
theorem dX13_chosen_48 : decode cX13_chosen 48 = .ok (.iconst (-1), 1) := by decide +kernel
theorem dX13_chosen_49 : decode cX13_chosen 49 = .ok (.ireturn, 1) := by decide +kernel
theorem dX13_choices_0 : decode cX13_choices 0 = .ok (.aload_n 0, 1) := by decide +kernel
theorem dX13_choices_1 : decode cX13_choices 1 = .ok (.iconst 0, 1) := by decide +kernel
theorem dX13_choices_2 : decode cX13_choices 2 = .ok (.putfield 1, 3) := by decide +kernel
theorem dX13_choices_5 : decode cX13_choices 5 = .ok (.aload_n 0, 1) := by decide +kernel
theorem dX13_choices_6 : decode cX13_choices 6 = .ok (.iload_n 1, 1) := by decide +kernel
theorem dX13_choices_7 : decode cX13_choices 7 = .ok (.invokevirtual 258, 3) := by decide +kernel
theorem dX13_choices_10 : decode cX13_choices 10 = .ok (.ifCond .eq 11, 3) := by decide +kernel
theorem dX13_choices_13 : decode cX13_choices 13 = .ok (.aload_n 0, 1) := by decide +kernel
theorem dX13_choices_14 : decode cX13_choices 14 = .ok (.iload_n 1, 1) := by decide +kernel
theorem dX13_choices_15 : decode cX13_choices 15 = .ok (.invokevirtual 261, 3) := by decide +kernel
theorem dX13_choices_18 : decode cX13_choices 18 = .ok (.ifCond .eq 5, 3) := by decide +kernel
theorem dX13_choices_21 : decode cX13_choices 21 = .ok (.iconst (-1), 1) := by decide +kernel
theorem dX13_choices_22 : decode cX13_choices 22 = .ok (.ireturn, 1) := by decide +kernel
theorem dX13_choices_23 : decode cX13_choices 23 = .ok (.iconst 0, 1) := by decide +kernel
theorem dX13_choices_24 : decode cX13_choices 24 = .ok (.istore_n 2, 1) := by decide +kernel
theorem dX13_choices_25 : decode cX13_choices 25 = .ok (.iconst 1, 1) := by decide +kernel
theorem dX13_choices_26 : decode cX13_choices 26 = .ok (.istore_n 3, 1) := by decide +kernel
theorem dX13_choices_27 : decode cX13_choices 27 = .ok (.iload_n 3, 1) := by decide +kernel
theorem dX13_choices_28 : decode cX13_choices 28 = .ok (.sipush 250, 3) := by decide +kernel
theorem dX13_choices_31 : decode cX13_choices 31 = .ok (.if_icmp .gt 21, 3) := by decide +kernel
theorem dX13_choices_34 : decode cX13_choices 34 = .ok (.aload_n 0, 1) := by decide +kernel
theorem dX13_choices_35 : decode cX13_choices 35 = .ok (.iload_n 1, 1) := by decide +kernel
theorem dX13_choices_36 : decode cX13_choices 36 = .ok (.iload_n 3, 1) := by decide +kernel
theorem dX13_choices_37 : decode cX13_choices 37 = .ok (.invokevirtual 346, 3) := by decide +kernel
theorem dX13_choices_40 : decode cX13_choices 40 = .ok (.ifCond .eq 6, 3) := by decide +kernel
theorem dX13_choices_43 : decode cX13_choices 43 = .ok (.iinc 2 1, 3) := by decide +kernel
theorem dX13_choices_46 : decode cX13_choices 46 = .ok (.iinc 3 1, 3) := by decide +kernel
theorem dX13_choices_49 : decode cX13_choices 49 = .ok (.goto (-22), 3) := by decide +kernel
theorem dX13_choices_52 : decode cX13_choices 52 = .ok (.iload_n 2, 1) := by decide +kernel
theorem dX13_choices_53 : decode cX13_choices 53 = .ok (.ireturn, 1) := by decide +kernel
theorem dX13_playOf_0 : decode cX13_playOf 0 = .ok (.aload_n 0, 1) := by decide +kernel
theorem dX13_playOf_1 : decode cX13_playOf 1 = .ok (.iload_n 1, 1) := by decide +kernel
theorem dX13_playOf_2 : decode cX13_playOf 2 = .ok (.invokevirtual 315, 3) := by decide +kernel
theorem dX13_playOf_5 : decode cX13_playOf 5 = .ok (.istore_n 2, 1) := by decide +kernel
theorem dX13_playOf_6 : decode cX13_playOf 6 = .ok (.iload_n 2, 1) := by decide +kernel
theorem dX13_playOf_7 : decode cX13_playOf 7 = .ok (.iconst (-1), 1) := by decide +kernel
theorem dX13_playOf_8 : decode cX13_playOf 8 = .ok (.if_icmp .ne 5, 3) := by decide +kernel
theorem dX13_playOf_11 : decode cX13_playOf 11 = .ok (.iconst (-1), 1) := by decide +kernel
theorem dX13_playOf_12 : decode cX13_playOf 12 = .ok (.ireturn, 1) := by decide +kernel
theorem dX13_playOf_13 : decode cX13_playOf 13 = .ok (.sipush 600, 3) := by decide +kernel
theorem dX13_playOf_16 : decode cX13_playOf 16 = .ok (.iload_n 2, 1) := by decide +kernel
theorem dX13_playOf_17 : decode cX13_playOf 17 = .ok (.aload_n 0, 1) := by decide +kernel
theorem dX13_playOf_18 : decode cX13_playOf 18 = .ok (.getfield 98, 3) := by decide +kernel
theorem dX13_playOf_21 : decode cX13_playOf 21 = .ok (.iconst 3, 1) := by decide +kernel
theorem dX13_playOf_22 : decode cX13_playOf 22 = .ok (.iaload, 1) := by decide +kernel
theorem dX13_playOf_23 : decode cX13_playOf 23 = .ok (.iadd, 1) := by decide +kernel
theorem dX13_playOf_24 : decode cX13_playOf 24 = .ok (.invokestatic 227, 3) := by decide +kernel
theorem dX13_playOf_27 : decode cX13_playOf 27 = .ok (.iconst 1, 1) := by decide +kernel
theorem dX13_playOf_28 : decode cX13_playOf 28 = .ok (.isub, 1) := by decide +kernel
theorem dX13_playOf_29 : decode cX13_playOf 29 = .ok (.istore_n 3, 1) := by decide +kernel
theorem dX13_playOf_30 : decode cX13_playOf 30 = .ok (.iload_n 3, 1) := by decide +kernel
theorem dX13_playOf_31 : decode cX13_playOf 31 = .ok (.iload_n 2, 1) := by decide +kernel
theorem dX13_playOf_32 : decode cX13_playOf 32 = .ok (.if_icmp .lt 68, 3) := by decide +kernel
theorem dX13_playOf_35 : decode cX13_playOf 35 = .ok (.aload_n 0, 1) := by decide +kernel
theorem dX13_playOf_36 : decode cX13_playOf 36 = .ok (.iload_n 3, 1) := by decide +kernel
theorem dX13_playOf_37 : decode cX13_playOf 37 = .ok (.putfield 349, 3) := by decide +kernel
theorem dX13_playOf_40 : decode cX13_playOf 40 = .ok (.aload_n 0, 1) := by decide +kernel
theorem dX13_playOf_41 : decode cX13_playOf 41 = .ok (.aload_n 0, 1) := by decide +kernel
theorem dX13_playOf_42 : decode cX13_playOf 42 = .ok (.getfield 98, 3) := by decide +kernel
theorem dX13_playOf_45 : decode cX13_playOf 45 = .ok (.bipush 60, 2) := by decide +kernel
theorem dX13_playOf_47 : decode cX13_playOf 47 = .ok (.iload_n 1, 1) := by decide +kernel
theorem dX13_playOf_48 : decode cX13_playOf 48 = .ok (.iadd, 1) := by decide +kernel
theorem dX13_playOf_49 : decode cX13_playOf 49 = .ok (.iaload, 1) := by decide +kernel
theorem dX13_playOf_50 : decode cX13_playOf 50 = .ok (.iload_n 3, 1) := by decide +kernel
theorem dX13_playOf_51 : decode cX13_playOf 51 = .ok (.invokevirtual 255, 3) := by decide +kernel
theorem dX13_playOf_54 : decode cX13_playOf 54 = .ok (.ifCond .eq 13, 3) := by decide +kernel
theorem dX13_playOf_57 : decode cX13_playOf 57 = .ok (.aload_n 0, 1) := by decide +kernel
theorem dX13_playOf_58 : decode cX13_playOf 58 = .ok (.getfield 98, 3) := by decide +kernel
theorem dX13_playOf_61 : decode cX13_playOf 61 = .ok (.bipush 60, 2) := by decide +kernel
theorem dX13_playOf_63 : decode cX13_playOf 63 = .ok (.iload_n 1, 1) := by decide +kernel
theorem dX13_playOf_64 : decode cX13_playOf 64 = .ok (.iadd, 1) := by decide +kernel
theorem dX13_playOf_65 : decode cX13_playOf 65 = .ok (.iaload, 1) := by decide +kernel
theorem dX13_playOf_66 : decode cX13_playOf 66 = .ok (.ireturn, 1) := by decide +kernel
theorem dX13_playOf_67 : decode cX13_playOf 67 = .ok (.aload_n 0, 1) := by decide +kernel
theorem dX13_playOf_68 : decode cX13_playOf 68 = .ok (.aload_n 0, 1) := by decide +kernel
theorem dX13_playOf_69 : decode cX13_playOf 69 = .ok (.getfield 98, 3) := by decide +kernel
theorem dX13_playOf_72 : decode cX13_playOf 72 = .ok (.bipush 56, 2) := by decide +kernel
theorem dX13_playOf_74 : decode cX13_playOf 74 = .ok (.iload_n 1, 1) := by decide +kernel
theorem dX13_playOf_75 : decode cX13_playOf 75 = .ok (.iadd, 1) := by decide +kernel
theorem dX13_playOf_76 : decode cX13_playOf 76 = .ok (.iaload, 1) := by decide +kernel
theorem dX13_playOf_77 : decode cX13_playOf 77 = .ok (.iload_n 3, 1) := by decide +kernel
theorem dX13_playOf_78 : decode cX13_playOf 78 = .ok (.invokevirtual 255, 3) := by decide +kernel
theorem dX13_playOf_81 : decode cX13_playOf 81 = .ok (.ifCond .eq 13, 3) := by decide +kernel
theorem dX13_playOf_84 : decode cX13_playOf 84 = .ok (.aload_n 0, 1) := by decide +kernel
theorem dX13_playOf_85 : decode cX13_playOf 85 = .ok (.getfield 98, 3) := by decide +kernel
theorem dX13_playOf_88 : decode cX13_playOf 88 = .ok (.bipush 56, 2) := by decide +kernel
theorem dX13_playOf_90 : decode cX13_playOf 90 = .ok (.iload_n 1, 1) := by decide +kernel
theorem dX13_playOf_91 : decode cX13_playOf 91 = .ok (.iadd, 1) := by decide +kernel
theorem dX13_playOf_92 : decode cX13_playOf 92 = .ok (.iaload, 1) := by decide +kernel
theorem dX13_playOf_93 : decode cX13_playOf 93 = .ok (.ireturn, 1) := by decide +kernel
theorem dX13_playOf_94 : decode cX13_playOf 94 = .ok (.iinc 3 (-1), 3) := by decide +kernel
theorem dX13_playOf_97 : decode cX13_playOf 97 = .ok (.goto (-67), 3) := by decide +kernel
theorem dX13_playOf_100 : decode cX13_playOf 100 = .ok (.iconst (-1), 1) := by decide +kernel
theorem dX13_playOf_101 : decode cX13_playOf 101 = .ok (.ireturn, 1) := by decide +kernel
theorem dX13_play_0 : decode cX13_play 0 = .ok (.aload_n 0, 1) := by decide +kernel
theorem dX13_play_1 : decode cX13_play 1 = .ok (.iconst 0, 1) := by decide +kernel
theorem dX13_play_2 : decode cX13_play 2 = .ok (.putfield 1, 3) := by decide +kernel
theorem dX13_play_5 : decode cX13_play 5 = .ok (.aload_n 0, 1) := by decide +kernel
theorem dX13_play_6 : decode cX13_play 6 = .ok (.iload_n 1, 1) := by decide +kernel
theorem dX13_play_7 : decode cX13_play 7 = .ok (.invokevirtual 352, 3) := by decide +kernel
theorem dX13_play_10 : decode cX13_play 10 = .ok (.ireturn, 1) := by decide +kernel
theorem dX13_playAt_0 : decode cX13_playAt 0 = .ok (.aload_n 0, 1) := by decide +kernel
theorem dX13_playAt_1 : decode cX13_playAt 1 = .ok (.iconst 0, 1) := by decide +kernel
theorem dX13_playAt_2 : decode cX13_playAt 2 = .ok (.putfield 1, 3) := by decide +kernel
theorem dX13_playAt_5 : decode cX13_playAt 5 = .ok (.aload_n 0, 1) := by decide +kernel
theorem dX13_playAt_6 : decode cX13_playAt 6 = .ok (.iload_n 1, 1) := by decide +kernel
theorem dX13_playAt_7 : decode cX13_playAt 7 = .ok (.invokevirtual 352, 3) := by decide +kernel
theorem dX13_playAt_10 : decode cX13_playAt 10 = .ok (.iconst (-1), 1) := by decide +kernel
theorem dX13_playAt_11 : decode cX13_playAt 11 = .ok (.if_icmp .ne 7, 3) := by decide +kernel
theorem dX13_playAt_14 : decode cX13_playAt 14 = .ok (.iconst (-1), 1) := by decide +kernel
theorem dX13_playAt_15 : decode cX13_playAt 15 = .ok (.goto 7, 3) := by decide +kernel
theorem dX13_playAt_18 : decode cX13_playAt 18 = .ok (.aload_n 0, 1) := by decide +kernel
theorem dX13_playAt_19 : decode cX13_playAt 19 = .ok (.getfield 349, 3) := by decide +kernel
theorem dX13_playAt_22 : decode cX13_playAt 22 = .ok (.ireturn, 1) := by decide +kernel
theorem dX13_steal_0 : decode cX13_steal 0 = .ok (.aload_n 0, 1) := by decide +kernel
theorem dX13_steal_1 : decode cX13_steal 1 = .ok (.iconst 0, 1) := by decide +kernel
theorem dX13_steal_2 : decode cX13_steal 2 = .ok (.putfield 1, 3) := by decide +kernel
theorem dX13_steal_5 : decode cX13_steal 5 = .ok (.aload_n 0, 1) := by decide +kernel
theorem dX13_steal_6 : decode cX13_steal 6 = .ok (.iload_n 1, 1) := by decide +kernel
theorem dX13_steal_7 : decode cX13_steal 7 = .ok (.invokevirtual 258, 3) := by decide +kernel
theorem dX13_steal_10 : decode cX13_steal 10 = .ok (.ifCond .eq 29, 3) := by decide +kernel
theorem dX13_steal_13 : decode cX13_steal 13 = .ok (.aload_n 0, 1) := by decide +kernel
theorem dX13_steal_14 : decode cX13_steal 14 = .ok (.iload_n 1, 1) := by decide +kernel
theorem dX13_steal_15 : decode cX13_steal 15 = .ok (.invokevirtual 261, 3) := by decide +kernel
theorem dX13_steal_18 : decode cX13_steal 18 = .ok (.ifCond .ne 21, 3) := by decide +kernel
theorem dX13_steal_21 : decode cX13_steal 21 = .ok (.iload_n 2, 1) := by decide +kernel
theorem dX13_steal_22 : decode cX13_steal 22 = .ok (.aload_n 0, 1) := by decide +kernel
theorem dX13_steal_23 : decode cX13_steal 23 = .ok (.getfield 98, 3) := by decide +kernel
theorem dX13_steal_26 : decode cX13_steal 26 = .ok (.bipush 102, 2) := by decide +kernel
theorem dX13_steal_28 : decode cX13_steal 28 = .ok (.iaload, 1) := by decide +kernel
theorem dX13_steal_29 : decode cX13_steal 29 = .ok (.if_icmp .le 10, 3) := by decide +kernel
theorem dX13_steal_32 : decode cX13_steal 32 = .ok (.iload_n 2, 1) := by decide +kernel
theorem dX13_steal_33 : decode cX13_steal 33 = .ok (.sipush 600, 3) := by decide +kernel
theorem dX13_steal_36 : decode cX13_steal 36 = .ok (.if_icmp .le 5, 3) := by decide +kernel
theorem dX13_steal_39 : decode cX13_steal 39 = .ok (.iconst (-1), 1) := by decide +kernel
theorem dX13_steal_40 : decode cX13_steal 40 = .ok (.ireturn, 1) := by decide +kernel
theorem dX13_steal_41 : decode cX13_steal 41 = .ok (.aload_n 0, 1) := by decide +kernel
theorem dX13_steal_42 : decode cX13_steal 42 = .ok (.invokevirtual 318, 3) := by decide +kernel
theorem dX13_steal_45 : decode cX13_steal 45 = .ok (.aload_n 0, 1) := by decide +kernel
theorem dX13_steal_46 : decode cX13_steal 46 = .ok (.getfield 98, 3) := by decide +kernel
theorem dX13_steal_49 : decode cX13_steal 49 = .ok (.bipush 125, 2) := by decide +kernel
theorem dX13_steal_51 : decode cX13_steal 51 = .ok (.iload_n 1, 1) := by decide +kernel
theorem dX13_steal_52 : decode cX13_steal 52 = .ok (.iadd, 1) := by decide +kernel
theorem dX13_steal_53 : decode cX13_steal 53 = .ok (.iaload, 1) := by decide +kernel
theorem dX13_steal_54 : decode cX13_steal 54 = .ok (.istore_n 3, 1) := by decide +kernel
theorem dX13_steal_55 : decode cX13_steal 55 = .ok (.iconst (-1), 1) := by decide +kernel
theorem dX13_steal_56 : decode cX13_steal 56 = .ok (.istore 4, 2) := by decide +kernel
theorem dX13_steal_58 : decode cX13_steal 58 = .ok (.iconst 0, 1) := by decide +kernel
theorem dX13_steal_59 : decode cX13_steal 59 = .ok (.istore 5, 2) := by decide +kernel
theorem dX13_steal_61 : decode cX13_steal 61 = .ok (.iload 5, 2) := by decide +kernel
theorem dX13_steal_63 : decode cX13_steal 63 = .ok (.iload_n 3, 1) := by decide +kernel
theorem dX13_steal_64 : decode cX13_steal 64 = .ok (.if_icmp .gt 70, 3) := by decide +kernel
theorem dX13_steal_67 : decode cX13_steal 67 = .ok (.iload 4, 2) := by decide +kernel
theorem dX13_steal_69 : decode cX13_steal 69 = .ok (.iconst (-1), 1) := by decide +kernel
theorem dX13_steal_70 : decode cX13_steal 70 = .ok (.if_icmp .ne 64, 3) := by decide +kernel
theorem dX13_steal_73 : decode cX13_steal 73 = .ok (.aload_n 0, 1) := by decide +kernel
theorem dX13_steal_74 : decode cX13_steal 74 = .ok (.getfield 98, 3) := by decide +kernel
theorem dX13_steal_77 : decode cX13_steal 77 = .ok (.bipush 125, 2) := by decide +kernel
theorem dX13_steal_79 : decode cX13_steal 79 = .ok (.iload_n 1, 1) := by decide +kernel
theorem dX13_steal_80 : decode cX13_steal 80 = .ok (.iadd, 1) := by decide +kernel
theorem dX13_steal_81 : decode cX13_steal 81 = .ok (.iload_n 3, 1) := by decide +kernel
theorem dX13_steal_82 : decode cX13_steal 82 = .ok (.iload 5, 2) := by decide +kernel
theorem dX13_steal_84 : decode cX13_steal 84 = .ok (.isub, 1) := by decide +kernel
theorem dX13_steal_85 : decode cX13_steal 85 = .ok (.iastore, 1) := by decide +kernel
theorem dX13_steal_86 : decode cX13_steal 86 = .ok (.aload_n 0, 1) := by decide +kernel
theorem dX13_steal_87 : decode cX13_steal 87 = .ok (.getfield 98, 3) := by decide +kernel
theorem dX13_steal_90 : decode cX13_steal 90 = .ok (.bipush 102, 2) := by decide +kernel
theorem dX13_steal_92 : decode cX13_steal 92 = .ok (.iaload, 1) := by decide +kernel
theorem dX13_steal_93 : decode cX13_steal 93 = .ok (.iload_n 2, 1) := by decide +kernel
theorem dX13_steal_94 : decode cX13_steal 94 = .ok (.if_icmp .ge 18, 3) := by decide +kernel
theorem dX13_steal_97 : decode cX13_steal 97 = .ok (.aload_n 0, 1) := by decide +kernel
theorem dX13_steal_98 : decode cX13_steal 98 = .ok (.iload_n 1, 1) := by decide +kernel
theorem dX13_steal_99 : decode cX13_steal 99 = .ok (.invokevirtual 261, 3) := by decide +kernel
theorem dX13_steal_102 : decode cX13_steal 102 = .ok (.ifCond .ne 10, 3) := by decide +kernel
theorem dX13_steal_105 : decode cX13_steal 105 = .ok (.aload_n 0, 1) := by decide +kernel
theorem dX13_steal_106 : decode cX13_steal 106 = .ok (.invokevirtual 306, 3) := by decide +kernel
theorem dX13_steal_109 : decode cX13_steal 109 = .ok (.goto (-23), 3) := by decide +kernel
theorem dX13_steal_112 : decode cX13_steal 112 = .ok (.aload_n 0, 1) := by decide +kernel
theorem dX13_steal_113 : decode cX13_steal 113 = .ok (.iload_n 1, 1) := by decide +kernel
theorem dX13_steal_114 : decode cX13_steal 114 = .ok (.invokevirtual 261, 3) := by decide +kernel
theorem dX13_steal_117 : decode cX13_steal 117 = .ok (.ifCond .eq 7, 3) := by decide +kernel
theorem dX13_steal_120 : decode cX13_steal 120 = .ok (.iload 5, 2) := by decide +kernel
theorem dX13_steal_122 : decode cX13_steal 122 = .ok (.istore 4, 2) := by decide +kernel
theorem dX13_steal_124 : decode cX13_steal 124 = .ok (.aload_n 0, 1) := by decide +kernel
theorem dX13_steal_125 : decode cX13_steal 125 = .ok (.invokevirtual 321, 3) := by decide +kernel
theorem dX13_steal_128 : decode cX13_steal 128 = .ok (.iinc 5 1, 3) := by decide +kernel
theorem dX13_steal_131 : decode cX13_steal 131 = .ok (.goto (-70), 3) := by decide +kernel
theorem dX13_steal_134 : decode cX13_steal 134 = .ok (.iload 4, 2) := by decide +kernel
theorem dX13_steal_136 : decode cX13_steal 136 = .ok (.ireturn, 1) := by decide +kernel
theorem dX13_law_0 : decode cX13_law 0 = .ok (.aload_n 0, 1) := by decide +kernel
theorem dX13_law_1 : decode cX13_law 1 = .ok (.iconst 0, 1) := by decide +kernel
theorem dX13_law_2 : decode cX13_law 2 = .ok (.putfield 1, 3) := by decide +kernel
theorem dX13_law_5 : decode cX13_law 5 = .ok (.iload_n 1, 1) := by decide +kernel
theorem dX13_law_6 : decode cX13_law 6 = .ok (.ifCond .lt 37, 3) := by decide +kernel
theorem dX13_law_9 : decode cX13_law 9 = .ok (.iload_n 1, 1) := by decide +kernel
theorem dX13_law_10 : decode cX13_law 10 = .ok (.iconst 1, 1) := by decide +kernel
theorem dX13_law_11 : decode cX13_law 11 = .ok (.aload_n 0, 1) := by decide +kernel
theorem dX13_law_12 : decode cX13_law 12 = .ok (.getfield 98, 3) := by decide +kernel
theorem dX13_law_15 : decode cX13_law 15 = .ok (.iconst 1, 1) := by decide +kernel
theorem dX13_law_16 : decode cX13_law 16 = .ok (.iaload, 1) := by decide +kernel
theorem dX13_law_17 : decode cX13_law 17 = .ok (.ishl, 1) := by decide +kernel
theorem dX13_law_18 : decode cX13_law 18 = .ok (.if_icmp .ge 25, 3) := by decide +kernel
theorem dX13_law_21 : decode cX13_law 21 = .ok (.iload_n 1, 1) := by decide +kernel
theorem dX13_law_22 : decode cX13_law 22 = .ok (.aload_n 0, 1) := by decide +kernel
theorem dX13_law_23 : decode cX13_law 23 = .ok (.getfield 98, 3) := by decide +kernel
theorem dX13_law_26 : decode cX13_law 26 = .ok (.bipush 104, 2) := by decide +kernel
theorem dX13_law_28 : decode cX13_law 28 = .ok (.iaload, 1) := by decide +kernel
theorem dX13_law_29 : decode cX13_law 29 = .ok (.iand, 1) := by decide +kernel
theorem dX13_law_30 : decode cX13_law 30 = .ok (.ifCond .ne 13, 3) := by decide +kernel
theorem dX13_law_33 : decode cX13_law 33 = .ok (.iload_n 2, 1) := by decide +kernel
theorem dX13_law_34 : decode cX13_law 34 = .ok (.iconst 1, 1) := by decide +kernel
theorem dX13_law_35 : decode cX13_law 35 = .ok (.bipush 60, 2) := by decide +kernel
theorem dX13_law_37 : decode cX13_law 37 = .ok (.invokestatic 75, 3) := by decide +kernel
theorem dX13_law_40 : decode cX13_law 40 = .ok (.ifCond .ne 5, 3) := by decide +kernel
theorem dX13_law_43 : decode cX13_law 43 = .ok (.iconst (-1), 1) := by decide +kernel
theorem dX13_law_44 : decode cX13_law 44 = .ok (.ireturn, 1) := by decide +kernel
theorem dX13_law_45 : decode cX13_law 45 = .ok (.aload_n 0, 1) := by decide +kernel
theorem dX13_law_46 : decode cX13_law 46 = .ok (.getfield 98, 3) := by decide +kernel
theorem dX13_law_49 : decode cX13_law 49 = .ok (.iconst 3, 1) := by decide +kernel
theorem dX13_law_50 : decode cX13_law 50 = .ok (.iaload, 1) := by decide +kernel
theorem dX13_law_51 : decode cX13_law 51 = .ok (.istore_n 3, 1) := by decide +kernel
theorem dX13_law_52 : decode cX13_law 52 = .ok (.iconst (-1), 1) := by decide +kernel
theorem dX13_law_53 : decode cX13_law 53 = .ok (.istore 4, 2) := by decide +kernel
theorem dX13_law_55 : decode cX13_law 55 = .ok (.aload_n 0, 1) := by decide +kernel
theorem dX13_law_56 : decode cX13_law 56 = .ok (.invokevirtual 318, 3) := by decide +kernel
theorem dX13_law_59 : decode cX13_law 59 = .ok (.iconst 1, 1) := by decide +kernel
theorem dX13_law_60 : decode cX13_law 60 = .ok (.istore 5, 2) := by decide +kernel
theorem dX13_law_62 : decode cX13_law 62 = .ok (.iload 5, 2) := by decide +kernel
theorem dX13_law_64 : decode cX13_law 64 = .ok (.bipush 9, 2) := by decide +kernel
theorem dX13_law_66 : decode cX13_law 66 = .ok (.if_icmp .gt 49, 3) := by decide +kernel
theorem dX13_law_69 : decode cX13_law 69 = .ok (.iload 4, 2) := by decide +kernel
theorem dX13_law_71 : decode cX13_law 71 = .ok (.iconst (-1), 1) := by decide +kernel
theorem dX13_law_72 : decode cX13_law 72 = .ok (.if_icmp .ne 43, 3) := by decide +kernel
theorem dX13_law_75 : decode cX13_law 75 = .ok (.aload_n 0, 1) := by decide +kernel
theorem dX13_law_76 : decode cX13_law 76 = .ok (.getfield 98, 3) := by decide +kernel
theorem dX13_law_79 : decode cX13_law 79 = .ok (.iconst 3, 1) := by decide +kernel
theorem dX13_law_80 : decode cX13_law 80 = .ok (.iload 5, 2) := by decide +kernel
theorem dX13_law_82 : decode cX13_law 82 = .ok (.iastore, 1) := by decide +kernel
theorem dX13_law_83 : decode cX13_law 83 = .ok (.aload_n 0, 1) := by decide +kernel
theorem dX13_law_84 : decode cX13_law 84 = .ok (.iload_n 2, 1) := by decide +kernel
theorem dX13_law_85 : decode cX13_law 85 = .ok (.invokevirtual 309, 3) := by decide +kernel
theorem dX13_law_88 : decode cX13_law 88 = .ok (.pop, 1) := by decide +kernel
theorem dX13_law_89 : decode cX13_law 89 = .ok (.iload_n 1, 1) := by decide +kernel
theorem dX13_law_90 : decode cX13_law 90 = .ok (.aload_n 0, 1) := by decide +kernel
theorem dX13_law_91 : decode cX13_law 91 = .ok (.getfield 98, 3) := by decide +kernel
theorem dX13_law_94 : decode cX13_law 94 = .ok (.bipush 104, 2) := by decide +kernel
theorem dX13_law_96 : decode cX13_law 96 = .ok (.iaload, 1) := by decide +kernel
theorem dX13_law_97 : decode cX13_law 97 = .ok (.iand, 1) := by decide +kernel
theorem dX13_law_98 : decode cX13_law 98 = .ok (.ifCond .ne 7, 3) := by decide +kernel
theorem dX13_law_101 : decode cX13_law 101 = .ok (.iload 5, 2) := by decide +kernel
theorem dX13_law_103 : decode cX13_law 103 = .ok (.istore 4, 2) := by decide +kernel
theorem dX13_law_105 : decode cX13_law 105 = .ok (.aload_n 0, 1) := by decide +kernel
theorem dX13_law_106 : decode cX13_law 106 = .ok (.invokevirtual 321, 3) := by decide +kernel
theorem dX13_law_109 : decode cX13_law 109 = .ok (.iinc 5 1, 3) := by decide +kernel
theorem dX13_law_112 : decode cX13_law 112 = .ok (.goto (-50), 3) := by decide +kernel
theorem dX13_law_115 : decode cX13_law 115 = .ok (.aload_n 0, 1) := by decide +kernel
theorem dX13_law_116 : decode cX13_law 116 = .ok (.getfield 98, 3) := by decide +kernel
theorem dX13_law_119 : decode cX13_law 119 = .ok (.iconst 3, 1) := by decide +kernel
theorem dX13_law_120 : decode cX13_law 120 = .ok (.iload_n 3, 1) := by decide +kernel
theorem dX13_law_121 : decode cX13_law 121 = .ok (.iastore, 1) := by decide +kernel
theorem dX13_law_122 : decode cX13_law 122 = .ok (.iload 4, 2) := by decide +kernel
theorem dX13_law_124 : decode cX13_law 124 = .ok (.ireturn, 1) := by decide +kernel
theorem dX13_partsOf_0 : decode cX13_partsOf 0 = .ok (.aload_n 0, 1) := by decide +kernel
theorem dX13_partsOf_1 : decode cX13_partsOf 1 = .ok (.iload_n 1, 1) := by decide +kernel
theorem dX13_partsOf_2 : decode cX13_partsOf 2 = .ok (.invokevirtual 258, 3) := by decide +kernel
theorem dX13_partsOf_5 : decode cX13_partsOf 5 = .ok (.ifCond .ne 5, 3) := by decide +kernel
theorem dX13_partsOf_8 : decode cX13_partsOf 8 = .ok (.iconst (-1), 1) := by decide +kernel
theorem dX13_partsOf_9 : decode cX13_partsOf 9 = .ok (.ireturn, 1) := by decide +kernel
theorem dX13_partsOf_10 : decode cX13_partsOf 10 = .ok (.iconst (-1), 1) := by decide +kernel
theorem dX13_partsOf_11 : decode cX13_partsOf 11 = .ok (.istore_n 2, 1) := by decide +kernel
theorem dX13_partsOf_12 : decode cX13_partsOf 12 = .ok (.iconst 0, 1) := by decide +kernel
theorem dX13_partsOf_13 : decode cX13_partsOf 13 = .ok (.istore_n 3, 1) := by decide +kernel
theorem dX13_partsOf_14 : decode cX13_partsOf 14 = .ok (.iload_n 3, 1) := by decide +kernel
theorem dX13_partsOf_15 : decode cX13_partsOf 15 = .ok (.iconst 1, 1) := by decide +kernel
theorem dX13_partsOf_16 : decode cX13_partsOf 16 = .ok (.aload_n 0, 1) := by decide +kernel
theorem dX13_partsOf_17 : decode cX13_partsOf 17 = .ok (.getfield 98, 3) := by decide +kernel
theorem dX13_partsOf_20 : decode cX13_partsOf 20 = .ok (.iconst 2, 1) := by decide +kernel
theorem dX13_partsOf_21 : decode cX13_partsOf 21 = .ok (.iaload, 1) := by decide +kernel
theorem dX13_partsOf_22 : decode cX13_partsOf 22 = .ok (.ishl, 1) := by decide +kernel
theorem dX13_partsOf_23 : decode cX13_partsOf 23 = .ok (.if_icmp .ge 150, 3) := by decide +kernel
theorem dX13_partsOf_26 : decode cX13_partsOf 26 = .ok (.iconst 0, 1) := by decide +kernel
theorem dX13_partsOf_27 : decode cX13_partsOf 27 = .ok (.istore 4, 2) := by decide +kernel
theorem dX13_partsOf_29 : decode cX13_partsOf 29 = .ok (.iconst 0, 1) := by decide +kernel
theorem dX13_partsOf_30 : decode cX13_partsOf 30 = .ok (.istore 5, 2) := by decide +kernel
theorem dX13_partsOf_32 : decode cX13_partsOf 32 = .ok (.iconst 1, 1) := by decide +kernel
theorem dX13_partsOf_33 : decode cX13_partsOf 33 = .ok (.istore 6, 2) := by decide +kernel
theorem dX13_partsOf_35 : decode cX13_partsOf 35 = .ok (.iconst 0, 1) := by decide +kernel
theorem dX13_partsOf_36 : decode cX13_partsOf 36 = .ok (.istore 7, 2) := by decide +kernel
theorem dX13_partsOf_38 : decode cX13_partsOf 38 = .ok (.iload 7, 2) := by decide +kernel
theorem dX13_partsOf_40 : decode cX13_partsOf 40 = .ok (.aload_n 0, 1) := by decide +kernel
theorem dX13_partsOf_41 : decode cX13_partsOf 41 = .ok (.getfield 98, 3) := by decide +kernel
theorem dX13_partsOf_44 : decode cX13_partsOf 44 = .ok (.iconst 2, 1) := by decide +kernel
theorem dX13_partsOf_45 : decode cX13_partsOf 45 = .ok (.iaload, 1) := by decide +kernel
theorem dX13_partsOf_46 : decode cX13_partsOf 46 = .ok (.if_icmp .ge 89, 3) := by decide +kernel
theorem dX13_partsOf_49 : decode cX13_partsOf 49 = .ok (.iload_n 3, 1) := by decide +kernel
theorem dX13_partsOf_50 : decode cX13_partsOf 50 = .ok (.iload 7, 2) := by decide +kernel
theorem dX13_partsOf_52 : decode cX13_partsOf 52 = .ok (.invokestatic 185, 3) := by decide +kernel
theorem dX13_partsOf_55 : decode cX13_partsOf 55 = .ok (.istore 8, 2) := by decide +kernel
theorem dX13_partsOf_57 : decode cX13_partsOf 57 = .ok (.aload_n 0, 1) := by decide +kernel
theorem dX13_partsOf_58 : decode cX13_partsOf 58 = .ok (.getfield 98, 3) := by decide +kernel
theorem dX13_partsOf_61 : decode cX13_partsOf 61 = .ok (.bipush 84, 2) := by decide +kernel
theorem dX13_partsOf_63 : decode cX13_partsOf 63 = .ok (.iload 7, 2) := by decide +kernel
theorem dX13_partsOf_65 : decode cX13_partsOf 65 = .ok (.iadd, 1) := by decide +kernel
theorem dX13_partsOf_66 : decode cX13_partsOf 66 = .ok (.iaload, 1) := by decide +kernel
theorem dX13_partsOf_67 : decode cX13_partsOf 67 = .ok (.iload_n 1, 1) := by decide +kernel
theorem dX13_partsOf_68 : decode cX13_partsOf 68 = .ok (.if_icmp .eq 23, 3) := by decide +kernel
theorem dX13_partsOf_71 : decode cX13_partsOf 71 = .ok (.iload 6, 2) := by decide +kernel
theorem dX13_partsOf_73 : decode cX13_partsOf 73 = .ok (.ifCond .eq 12, 3) := by decide +kernel
theorem dX13_partsOf_76 : decode cX13_partsOf 76 = .ok (.iload 8, 2) := by decide +kernel
theorem dX13_partsOf_78 : decode cX13_partsOf 78 = .ok (.ifCond .ne 7, 3) := by decide +kernel
theorem dX13_partsOf_81 : decode cX13_partsOf 81 = .ok (.iconst 1, 1) := by decide +kernel
theorem dX13_partsOf_82 : decode cX13_partsOf 82 = .ok (.goto 4, 3) := by decide +kernel
theorem dX13_partsOf_85 : decode cX13_partsOf 85 = .ok (.iconst 0, 1) := by decide +kernel
theorem dX13_partsOf_86 : decode cX13_partsOf 86 = .ok (.istore 6, 2) := by decide +kernel
theorem dX13_partsOf_88 : decode cX13_partsOf 88 = .ok (.goto 41, 3) := by decide +kernel
theorem dX13_partsOf_91 : decode cX13_partsOf 91 = .ok (.iload 8, 2) := by decide +kernel
theorem dX13_partsOf_93 : decode cX13_partsOf 93 = .ok (.ifCond .eq 21, 3) := by decide +kernel
theorem dX13_partsOf_96 : decode cX13_partsOf 96 = .ok (.iload 4, 2) := by decide +kernel
theorem dX13_partsOf_98 : decode cX13_partsOf 98 = .ok (.aload_n 0, 1) := by decide +kernel
theorem dX13_partsOf_99 : decode cX13_partsOf 99 = .ok (.getfield 98, 3) := by decide +kernel
theorem dX13_partsOf_102 : decode cX13_partsOf 102 = .ok (.bipush 90, 2) := by decide +kernel
theorem dX13_partsOf_104 : decode cX13_partsOf 104 = .ok (.iload 7, 2) := by decide +kernel
theorem dX13_partsOf_106 : decode cX13_partsOf 106 = .ok (.iadd, 1) := by decide +kernel
theorem dX13_partsOf_107 : decode cX13_partsOf 107 = .ok (.iaload, 1) := by decide +kernel
theorem dX13_partsOf_108 : decode cX13_partsOf 108 = .ok (.iadd, 1) := by decide +kernel
theorem dX13_partsOf_109 : decode cX13_partsOf 109 = .ok (.istore 4, 2) := by decide +kernel
theorem dX13_partsOf_111 : decode cX13_partsOf 111 = .ok (.goto 18, 3) := by decide +kernel
theorem dX13_partsOf_114 : decode cX13_partsOf 114 = .ok (.iload 5, 2) := by decide +kernel
theorem dX13_partsOf_116 : decode cX13_partsOf 116 = .ok (.aload_n 0, 1) := by decide +kernel
theorem dX13_partsOf_117 : decode cX13_partsOf 117 = .ok (.getfield 98, 3) := by decide +kernel
theorem dX13_partsOf_120 : decode cX13_partsOf 120 = .ok (.bipush 96, 2) := by decide +kernel
theorem dX13_partsOf_122 : decode cX13_partsOf 122 = .ok (.iload 7, 2) := by decide +kernel
theorem dX13_partsOf_124 : decode cX13_partsOf 124 = .ok (.iadd, 1) := by decide +kernel
theorem dX13_partsOf_125 : decode cX13_partsOf 125 = .ok (.iaload, 1) := by decide +kernel
theorem dX13_partsOf_126 : decode cX13_partsOf 126 = .ok (.iadd, 1) := by decide +kernel
theorem dX13_partsOf_127 : decode cX13_partsOf 127 = .ok (.istore 5, 2) := by decide +kernel
theorem dX13_partsOf_129 : decode cX13_partsOf 129 = .ok (.iinc 7 1, 3) := by decide +kernel
theorem dX13_partsOf_132 : decode cX13_partsOf 132 = .ok (.goto (-94), 3) := by decide +kernel
theorem dX13_partsOf_135 : decode cX13_partsOf 135 = .ok (.iload 6, 2) := by decide +kernel
theorem dX13_partsOf_137 : decode cX13_partsOf 137 = .ok (.ifCond .eq 30, 3) := by decide +kernel
theorem dX13_partsOf_140 : decode cX13_partsOf 140 = .ok (.iload 4, 2) := by decide +kernel
theorem dX13_partsOf_142 : decode cX13_partsOf 142 = .ok (.iload 5, 2) := by decide +kernel
theorem dX13_partsOf_144 : decode cX13_partsOf 144 = .ok (.invokestatic 227, 3) := by decide +kernel
theorem dX13_partsOf_147 : decode cX13_partsOf 147 = .ok (.iload_n 2, 1) := by decide +kernel
theorem dX13_partsOf_148 : decode cX13_partsOf 148 = .ok (.if_icmp .gt 6, 3) := by decide +kernel
theorem dX13_partsOf_151 : decode cX13_partsOf 151 = .ok (.goto 16, 3) := by decide +kernel
theorem dX13_partsOf_154 : decode cX13_partsOf 154 = .ok (.iload 4, 2) := by decide +kernel
theorem dX13_partsOf_156 : decode cX13_partsOf 156 = .ok (.iload 5, 2) := by decide +kernel
theorem dX13_partsOf_158 : decode cX13_partsOf 158 = .ok (.invokestatic 227, 3) := by decide +kernel
theorem dX13_partsOf_161 : decode cX13_partsOf 161 = .ok (.istore_n 2, 1) := by decide +kernel
theorem dX13_partsOf_162 : decode cX13_partsOf 162 = .ok (.aload_n 0, 1) := by decide +kernel
theorem dX13_partsOf_163 : decode cX13_partsOf 163 = .ok (.iload_n 3, 1) := by decide +kernel
theorem dX13_partsOf_164 : decode cX13_partsOf 164 = .ok (.putfield 355, 3) := by decide +kernel
theorem dX13_partsOf_167 : decode cX13_partsOf 167 = .ok (.iinc 3 1, 3) := by decide +kernel
theorem dX13_partsOf_170 : decode cX13_partsOf 170 = .ok (.goto (-156), 3) := by decide +kernel
theorem dX13_partsOf_173 : decode cX13_partsOf 173 = .ok (.iload_n 2, 1) := by decide +kernel
theorem dX13_partsOf_174 : decode cX13_partsOf 174 = .ok (.ireturn, 1) := by decide +kernel
theorem dX13_parts_0 : decode cX13_parts 0 = .ok (.aload_n 0, 1) := by decide +kernel
theorem dX13_parts_1 : decode cX13_parts 1 = .ok (.iconst 0, 1) := by decide +kernel
theorem dX13_parts_2 : decode cX13_parts 2 = .ok (.putfield 1, 3) := by decide +kernel
theorem dX13_parts_5 : decode cX13_parts 5 = .ok (.aload_n 0, 1) := by decide +kernel
theorem dX13_parts_6 : decode cX13_parts 6 = .ok (.iload_n 1, 1) := by decide +kernel
theorem dX13_parts_7 : decode cX13_parts 7 = .ok (.invokevirtual 358, 3) := by decide +kernel
theorem dX13_parts_10 : decode cX13_parts 10 = .ok (.ireturn, 1) := by decide +kernel
theorem dX13_parted_0 : decode cX13_parted 0 = .ok (.aload_n 0, 1) := by decide +kernel
theorem dX13_parted_1 : decode cX13_parted 1 = .ok (.iconst 0, 1) := by decide +kernel
theorem dX13_parted_2 : decode cX13_parted 2 = .ok (.putfield 1, 3) := by decide +kernel
theorem dX13_parted_5 : decode cX13_parted 5 = .ok (.aload_n 0, 1) := by decide +kernel
theorem dX13_parted_6 : decode cX13_parted 6 = .ok (.iload_n 1, 1) := by decide +kernel
theorem dX13_parted_7 : decode cX13_parted 7 = .ok (.invokevirtual 358, 3) := by decide +kernel
theorem dX13_parted_10 : decode cX13_parted 10 = .ok (.iconst (-1), 1) := by decide +kernel
theorem dX13_parted_11 : decode cX13_parted 11 = .ok (.if_icmp .ne 7, 3) := by decide +kernel
theorem dX13_parted_14 : decode cX13_parted 14 = .ok (.iconst (-1), 1) := by decide +kernel
theorem dX13_parted_15 : decode cX13_parted 15 = .ok (.goto 7, 3) := by decide +kernel
theorem dX13_parted_18 : decode cX13_parted 18 = .ok (.aload_n 0, 1) := by decide +kernel
theorem dX13_parted_19 : decode cX13_parted 19 = .ok (.getfield 355, 3) := by decide +kernel
theorem dX13_parted_22 : decode cX13_parted 22 = .ok (.ireturn, 1) := by decide +kernel
theorem dX13_good_0 : decode cX13_good 0 = .ok (.aload_n 0, 1) := by decide +kernel
theorem dX13_good_1 : decode cX13_good 1 = .ok (.iconst 0, 1) := by decide +kernel
theorem dX13_good_2 : decode cX13_good 2 = .ok (.putfield 1, 3) := by decide +kernel
theorem dX13_good_5 : decode cX13_good 5 = .ok (.iload_n 1, 1) := by decide +kernel
theorem dX13_good_6 : decode cX13_good 6 = .ok (.iconst 0, 1) := by decide +kernel
theorem dX13_good_7 : decode cX13_good 7 = .ok (.aload_n 0, 1) := by decide +kernel
theorem dX13_good_8 : decode cX13_good 8 = .ok (.getfield 98, 3) := by decide +kernel
theorem dX13_good_11 : decode cX13_good 11 = .ok (.iconst 2, 1) := by decide +kernel
theorem dX13_good_12 : decode cX13_good 12 = .ok (.iaload, 1) := by decide +kernel
theorem dX13_good_13 : decode cX13_good 13 = .ok (.iconst 1, 1) := by decide +kernel
theorem dX13_good_14 : decode cX13_good 14 = .ok (.isub, 1) := by decide +kernel
theorem dX13_good_15 : decode cX13_good 15 = .ok (.invokestatic 75, 3) := by decide +kernel
theorem dX13_good_18 : decode cX13_good 18 = .ok (.ifCond .ne 5, 3) := by decide +kernel
theorem dX13_good_21 : decode cX13_good 21 = .ok (.iconst (-1), 1) := by decide +kernel
theorem dX13_good_22 : decode cX13_good 22 = .ok (.ireturn, 1) := by decide +kernel
theorem dX13_good_23 : decode cX13_good 23 = .ok (.iload_n 2, 1) := by decide +kernel
theorem dX13_good_24 : decode cX13_good 24 = .ok (.tableswitch 58 0 2 #[28, 38, 48], 28) := by decide +kernel
theorem dX13_good_52 : decode cX13_good 52 = .ok (.aload_n 0, 1) := by decide +kernel
theorem dX13_good_53 : decode cX13_good 53 = .ok (.getfield 98, 3) := by decide +kernel
theorem dX13_good_56 : decode cX13_good 56 = .ok (.bipush 84, 2) := by decide +kernel
theorem dX13_good_58 : decode cX13_good 58 = .ok (.iload_n 1, 1) := by decide +kernel
theorem dX13_good_59 : decode cX13_good 59 = .ok (.iadd, 1) := by decide +kernel
theorem dX13_good_60 : decode cX13_good 60 = .ok (.iaload, 1) := by decide +kernel
theorem dX13_good_61 : decode cX13_good 61 = .ok (.ireturn, 1) := by decide +kernel
theorem dX13_good_62 : decode cX13_good 62 = .ok (.aload_n 0, 1) := by decide +kernel
theorem dX13_good_63 : decode cX13_good 63 = .ok (.getfield 98, 3) := by decide +kernel
theorem dX13_good_66 : decode cX13_good 66 = .ok (.bipush 90, 2) := by decide +kernel
theorem dX13_good_68 : decode cX13_good 68 = .ok (.iload_n 1, 1) := by decide +kernel
theorem dX13_good_69 : decode cX13_good 69 = .ok (.iadd, 1) := by decide +kernel
theorem dX13_good_70 : decode cX13_good 70 = .ok (.iaload, 1) := by decide +kernel
theorem dX13_good_71 : decode cX13_good 71 = .ok (.ireturn, 1) := by decide +kernel
theorem dX13_good_72 : decode cX13_good 72 = .ok (.aload_n 0, 1) := by decide +kernel
theorem dX13_good_73 : decode cX13_good 73 = .ok (.getfield 98, 3) := by decide +kernel
theorem dX13_good_76 : decode cX13_good 76 = .ok (.bipush 96, 2) := by decide +kernel
theorem dX13_good_78 : decode cX13_good 78 = .ok (.iload_n 1, 1) := by decide +kernel
theorem dX13_good_79 : decode cX13_good 79 = .ok (.iadd, 1) := by decide +kernel
theorem dX13_good_80 : decode cX13_good 80 = .ok (.iaload, 1) := by decide +kernel
theorem dX13_good_81 : decode cX13_good 81 = .ok (.ireturn, 1) := by decide +kernel
theorem dX13_good_82 : decode cX13_good 82 = .ok (.iconst (-1), 1) := by decide +kernel
theorem dX13_good_83 : decode cX13_good 83 = .ok (.ireturn, 1) := by decide +kernel
theorem dX13_rings_0 : decode cX13_rings 0 = .ok (.aload_n 0, 1) := by decide +kernel
theorem dX13_rings_1 : decode cX13_rings 1 = .ok (.iconst 0, 1) := by decide +kernel
theorem dX13_rings_2 : decode cX13_rings 2 = .ok (.putfield 1, 3) := by decide +kernel
theorem dX13_rings_5 : decode cX13_rings 5 = .ok (.aload_n 0, 1) := by decide +kernel
theorem dX13_rings_6 : decode cX13_rings 6 = .ok (.invokevirtual 89, 3) := by decide +kernel
theorem dX13_rings_9 : decode cX13_rings 9 = .ok (.istore_n 2, 1) := by decide +kernel
theorem dX13_rings_10 : decode cX13_rings 10 = .ok (.iload_n 2, 1) := by decide +kernel
theorem dX13_rings_11 : decode cX13_rings 11 = .ok (.iconst 1, 1) := by decide +kernel
theorem dX13_rings_12 : decode cX13_rings 12 = .ok (.if_icmp .ne 19, 3) := by decide +kernel
theorem dX13_rings_15 : decode cX13_rings 15 = .ok (.aload_n 0, 1) := by decide +kernel
theorem dX13_rings_16 : decode cX13_rings 16 = .ok (.iload_n 1, 1) := by decide +kernel
theorem dX13_rings_17 : decode cX13_rings 17 = .ok (.invokevirtual 258, 3) := by decide +kernel
theorem dX13_rings_20 : decode cX13_rings 20 = .ok (.ifCond .eq 11, 3) := by decide +kernel
theorem dX13_rings_23 : decode cX13_rings 23 = .ok (.aload_n 0, 1) := by decide +kernel
theorem dX13_rings_24 : decode cX13_rings 24 = .ok (.iload_n 1, 1) := by decide +kernel
theorem dX13_rings_25 : decode cX13_rings 25 = .ok (.invokevirtual 261, 3) := by decide +kernel
theorem dX13_rings_28 : decode cX13_rings 28 = .ok (.ifCond .eq 5, 3) := by decide +kernel
theorem dX13_rings_31 : decode cX13_rings 31 = .ok (.iconst (-1), 1) := by decide +kernel
theorem dX13_rings_32 : decode cX13_rings 32 = .ok (.ireturn, 1) := by decide +kernel
theorem dX13_rings_33 : decode cX13_rings 33 = .ok (.iconst 0, 1) := by decide +kernel
theorem dX13_rings_34 : decode cX13_rings 34 = .ok (.istore_n 3, 1) := by decide +kernel
theorem dX13_rings_35 : decode cX13_rings 35 = .ok (.iconst 0, 1) := by decide +kernel
theorem dX13_rings_36 : decode cX13_rings 36 = .ok (.istore 4, 2) := by decide +kernel
theorem dX13_rings_38 : decode cX13_rings 38 = .ok (.iload 4, 2) := by decide +kernel
theorem dX13_rings_40 : decode cX13_rings 40 = .ok (.bipush 24, 2) := by decide +kernel
theorem dX13_rings_42 : decode cX13_rings 42 = .ok (.aload_n 0, 1) := by decide +kernel
theorem dX13_rings_43 : decode cX13_rings 43 = .ok (.getfield 98, 3) := by decide +kernel
theorem dX13_rings_46 : decode cX13_rings 46 = .ok (.bipush 102, 2) := by decide +kernel
theorem dX13_rings_48 : decode cX13_rings 48 = .ok (.iaload, 1) := by decide +kernel
theorem dX13_rings_49 : decode cX13_rings 49 = .ok (.invokestatic 227, 3) := by decide +kernel
theorem dX13_rings_52 : decode cX13_rings 52 = .ok (.if_icmp .gt 85, 3) := by decide +kernel
theorem dX13_rings_55 : decode cX13_rings 55 = .ok (.aload_n 0, 1) := by decide +kernel
theorem dX13_rings_56 : decode cX13_rings 56 = .ok (.getfield 98, 3) := by decide +kernel
theorem dX13_rings_59 : decode cX13_rings 59 = .ok (.bipush 64, 2) := by decide +kernel
theorem dX13_rings_61 : decode cX13_rings 61 = .ok (.iload_n 1, 1) := by decide +kernel
theorem dX13_rings_62 : decode cX13_rings 62 = .ok (.iadd, 1) := by decide +kernel
theorem dX13_rings_63 : decode cX13_rings 63 = .ok (.iaload, 1) := by decide +kernel
theorem dX13_rings_64 : decode cX13_rings 64 = .ok (.istore 5, 2) := by decide +kernel
theorem dX13_rings_66 : decode cX13_rings 66 = .ok (.aload_n 0, 1) := by decide +kernel
theorem dX13_rings_67 : decode cX13_rings 67 = .ok (.getfield 98, 3) := by decide +kernel
theorem dX13_rings_70 : decode cX13_rings 70 = .ok (.bipush 102, 2) := by decide +kernel
theorem dX13_rings_72 : decode cX13_rings 72 = .ok (.iaload, 1) := by decide +kernel
theorem dX13_rings_73 : decode cX13_rings 73 = .ok (.iload 4, 2) := by decide +kernel
theorem dX13_rings_75 : decode cX13_rings 75 = .ok (.isub, 1) := by decide +kernel
theorem dX13_rings_76 : decode cX13_rings 76 = .ok (.istore 6, 2) := by decide +kernel
theorem dX13_rings_78 : decode cX13_rings 78 = .ok (.iload 6, 2) := by decide +kernel
theorem dX13_rings_80 : decode cX13_rings 80 = .ok (.aload_n 0, 1) := by decide +kernel
theorem dX13_rings_81 : decode cX13_rings 81 = .ok (.getfield 98, 3) := by decide +kernel
theorem dX13_rings_84 : decode cX13_rings 84 = .ok (.bipush 102, 2) := by decide +kernel
theorem dX13_rings_86 : decode cX13_rings 86 = .ok (.iaload, 1) := by decide +kernel
theorem dX13_rings_87 : decode cX13_rings 87 = .ok (.if_icmp .ge 26, 3) := by decide +kernel
theorem dX13_rings_90 : decode cX13_rings 90 = .ok (.iload 5, 2) := by decide +kernel
theorem dX13_rings_92 : decode cX13_rings 92 = .ok (.iload 5, 2) := by decide +kernel
theorem dX13_rings_94 : decode cX13_rings 94 = .ok (.aload_n 0, 1) := by decide +kernel
theorem dX13_rings_95 : decode cX13_rings 95 = .ok (.iload_n 1, 1) := by decide +kernel
theorem dX13_rings_96 : decode cX13_rings 96 = .ok (.iload 6, 2) := by decide +kernel
theorem dX13_rings_98 : decode cX13_rings 98 = .ok (.invokevirtual 264, 3) := by decide +kernel
theorem dX13_rings_101 : decode cX13_rings 101 = .ok (.invokestatic 227, 3) := by decide +kernel
theorem dX13_rings_104 : decode cX13_rings 104 = .ok (.isub, 1) := by decide +kernel
theorem dX13_rings_105 : decode cX13_rings 105 = .ok (.istore 5, 2) := by decide +kernel
theorem dX13_rings_107 : decode cX13_rings 107 = .ok (.iinc 6 1, 3) := by decide +kernel
theorem dX13_rings_110 : decode cX13_rings 110 = .ok (.goto (-32), 3) := by decide +kernel
theorem dX13_rings_113 : decode cX13_rings 113 = .ok (.iload 5, 2) := by decide +kernel
theorem dX13_rings_115 : decode cX13_rings 115 = .ok (.aload_n 0, 1) := by decide +kernel
theorem dX13_rings_116 : decode cX13_rings 116 = .ok (.getfield 7, 3) := by decide +kernel
theorem dX13_rings_119 : decode cX13_rings 119 = .ok (.iconst 0, 1) := by decide +kernel
theorem dX13_rings_120 : decode cX13_rings 120 = .ok (.iaload, 1) := by decide +kernel
theorem dX13_rings_121 : decode cX13_rings 121 = .ok (.if_icmp .ne 10, 3) := by decide +kernel
theorem dX13_rings_124 : decode cX13_rings 124 = .ok (.iload_n 3, 1) := by decide +kernel
theorem dX13_rings_125 : decode cX13_rings 125 = .ok (.iconst 1, 1) := by decide +kernel
theorem dX13_rings_126 : decode cX13_rings 126 = .ok (.iload 4, 2) := by decide +kernel
theorem dX13_rings_128 : decode cX13_rings 128 = .ok (.ishl, 1) := by decide +kernel
theorem dX13_rings_129 : decode cX13_rings 129 = .ok (.ior, 1) := by decide +kernel
theorem dX13_rings_130 : decode cX13_rings 130 = .ok (.istore_n 3, 1) := by decide +kernel
theorem dX13_rings_131 : decode cX13_rings 131 = .ok (.iinc 4 1, 3) := by decide +kernel
theorem dX13_rings_134 : decode cX13_rings 134 = .ok (.goto (-96), 3) := by decide +kernel
theorem dX13_rings_137 : decode cX13_rings 137 = .ok (.iload_n 3, 1) := by decide +kernel
theorem dX13_rings_138 : decode cX13_rings 138 = .ok (.ireturn, 1) := by decide +kernel
theorem dX13_together_0 : decode cX13_together 0 = .ok (.aload_n 0, 1) := by decide +kernel
theorem dX13_together_1 : decode cX13_together 1 = .ok (.iconst 0, 1) := by decide +kernel
theorem dX13_together_2 : decode cX13_together 2 = .ok (.putfield 1, 3) := by decide +kernel
theorem dX13_together_5 : decode cX13_together 5 = .ok (.aload_n 0, 1) := by decide +kernel
theorem dX13_together_6 : decode cX13_together 6 = .ok (.iload_n 1, 1) := by decide +kernel
theorem dX13_together_7 : decode cX13_together 7 = .ok (.invokevirtual 258, 3) := by decide +kernel
theorem dX13_together_10 : decode cX13_together 10 = .ok (.ifCond .eq 13, 3) := by decide +kernel
theorem dX13_together_13 : decode cX13_together 13 = .ok (.iload_n 2, 1) := by decide +kernel
theorem dX13_together_14 : decode cX13_together 14 = .ok (.iconst 1, 1) := by decide +kernel
theorem dX13_together_15 : decode cX13_together 15 = .ok (.bipush 60, 2) := by decide +kernel
theorem dX13_together_17 : decode cX13_together 17 = .ok (.invokestatic 75, 3) := by decide +kernel
theorem dX13_together_20 : decode cX13_together 20 = .ok (.ifCond .ne 5, 3) := by decide +kernel
theorem dX13_together_23 : decode cX13_together 23 = .ok (.iconst (-1), 1) := by decide +kernel
theorem dX13_together_24 : decode cX13_together 24 = .ok (.ireturn, 1) := by decide +kernel
theorem dX13_together_25 : decode cX13_together 25 = .ok (.iconst 0, 1) := by decide +kernel
theorem dX13_together_26 : decode cX13_together 26 = .ok (.istore_n 3, 1) := by decide +kernel
theorem dX13_together_27 : decode cX13_together 27 = .ok (.aload_n 0, 1) := by decide +kernel
theorem dX13_together_28 : decode cX13_together 28 = .ok (.getfield 98, 3) := by decide +kernel
theorem dX13_together_31 : decode cX13_together 31 = .ok (.bipush 102, 2) := by decide +kernel
theorem dX13_together_33 : decode cX13_together 33 = .ok (.iaload, 1) := by decide +kernel
theorem dX13_together_34 : decode cX13_together 34 = .ok (.istore 4, 2) := by decide +kernel
theorem dX13_together_36 : decode cX13_together 36 = .ok (.iload 4, 2) := by decide +kernel
theorem dX13_together_38 : decode cX13_together 38 = .ok (.sipush 600, 3) := by decide +kernel
theorem dX13_together_41 : decode cX13_together 41 = .ok (.aload_n 0, 1) := by decide +kernel
theorem dX13_together_42 : decode cX13_together 42 = .ok (.getfield 98, 3) := by decide +kernel
theorem dX13_together_45 : decode cX13_together 45 = .ok (.bipush 102, 2) := by decide +kernel
theorem dX13_together_47 : decode cX13_together 47 = .ok (.iaload, 1) := by decide +kernel
theorem dX13_together_48 : decode cX13_together 48 = .ok (.iload_n 2, 1) := by decide +kernel
theorem dX13_together_49 : decode cX13_together 49 = .ok (.iadd, 1) := by decide +kernel
theorem dX13_together_50 : decode cX13_together 50 = .ok (.invokestatic 227, 3) := by decide +kernel
theorem dX13_together_53 : decode cX13_together 53 = .ok (.if_icmp .ge 48, 3) := by decide +kernel
theorem dX13_together_56 : decode cX13_together 56 = .ok (.aload_n 0, 1) := by decide +kernel
theorem dX13_together_57 : decode cX13_together 57 = .ok (.aload_n 0, 1) := by decide +kernel
theorem dX13_together_58 : decode cX13_together 58 = .ok (.getfield 98, 3) := by decide +kernel
theorem dX13_together_61 : decode cX13_together 61 = .ok (.bipush 56, 2) := by decide +kernel
theorem dX13_together_63 : decode cX13_together 63 = .ok (.iload_n 1, 1) := by decide +kernel
theorem dX13_together_64 : decode cX13_together 64 = .ok (.iadd, 1) := by decide +kernel
theorem dX13_together_65 : decode cX13_together 65 = .ok (.iaload, 1) := by decide +kernel
theorem dX13_together_66 : decode cX13_together 66 = .ok (.iload 4, 2) := by decide +kernel
theorem dX13_together_68 : decode cX13_together 68 = .ok (.invokevirtual 224, 3) := by decide +kernel
theorem dX13_together_71 : decode cX13_together 71 = .ok (.ifCond .eq 24, 3) := by decide +kernel
theorem dX13_together_74 : decode cX13_together 74 = .ok (.aload_n 0, 1) := by decide +kernel
theorem dX13_together_75 : decode cX13_together 75 = .ok (.aload_n 0, 1) := by decide +kernel
theorem dX13_together_76 : decode cX13_together 76 = .ok (.getfield 98, 3) := by decide +kernel
theorem dX13_together_79 : decode cX13_together 79 = .ok (.bipush 60, 2) := by decide +kernel
theorem dX13_together_81 : decode cX13_together 81 = .ok (.iload_n 1, 1) := by decide +kernel
theorem dX13_together_82 : decode cX13_together 82 = .ok (.iadd, 1) := by decide +kernel
theorem dX13_together_83 : decode cX13_together 83 = .ok (.iaload, 1) := by decide +kernel
theorem dX13_together_84 : decode cX13_together 84 = .ok (.iload 4, 2) := by decide +kernel
theorem dX13_together_86 : decode cX13_together 86 = .ok (.invokevirtual 224, 3) := by decide +kernel
theorem dX13_together_89 : decode cX13_together 89 = .ok (.ifCond .eq 6, 3) := by decide +kernel
theorem dX13_together_92 : decode cX13_together 92 = .ok (.iinc 3 1, 3) := by decide +kernel
theorem dX13_together_95 : decode cX13_together 95 = .ok (.iinc 4 1, 3) := by decide +kernel
theorem dX13_together_98 : decode cX13_together 98 = .ok (.goto (-62), 3) := by decide +kernel
theorem dX13_together_101 : decode cX13_together 101 = .ok (.iload_n 3, 1) := by decide +kernel
theorem dX13_together_102 : decode cX13_together 102 = .ok (.ireturn, 1) := by decide +kernel
theorem dX13_write_0 : decode cX13_write 0 = .ok (.aload_n 0, 1) := by decide +kernel
theorem dX13_write_1 : decode cX13_write 1 = .ok (.getfield 136, 3) := by decide +kernel
theorem dX13_write_4 : decode cX13_write 4 = .ok (.aload_n 0, 1) := by decide +kernel
theorem dX13_write_5 : decode cX13_write 5 = .ok (.getfield 361, 3) := by decide +kernel
theorem dX13_write_8 : decode cX13_write 8 = .ok (.iload_n 1, 1) := by decide +kernel
theorem dX13_write_9 : decode cX13_write 9 = .ok (.iastore, 1) := by decide +kernel
theorem dX13_write_10 : decode cX13_write 10 = .ok (.aload_n 0, 1) := by decide +kernel
theorem dX13_write_11 : decode cX13_write 11 = .ok (.dup, 1) := by decide +kernel
theorem dX13_write_12 : decode cX13_write 12 = .ok (.getfield 361, 3) := by decide +kernel
theorem dX13_write_15 : decode cX13_write 15 = .ok (.iconst 1, 1) := by decide +kernel
theorem dX13_write_16 : decode cX13_write 16 = .ok (.iadd, 1) := by decide +kernel
theorem dX13_write_17 : decode cX13_write 17 = .ok (.putfield 361, 3) := by decide +kernel
theorem dX13_write_20 : decode cX13_write 20 = .ok (.return_, 1) := by decide +kernel
theorem dX13_writeWord_0 : decode cX13_writeWord 0 = .ok (.lload_n 1, 1) := by decide +kernel
theorem dX13_writeWord_1 : decode cX13_writeWord 1 = .ok (.ldc2_w 54, 3) := by decide +kernel
theorem dX13_writeWord_4 : decode cX13_writeWord 4 = .ok (.lcmp, 1) := by decide +kernel
theorem dX13_writeWord_5 : decode cX13_writeWord 5 = .ok (.ifCond .lt 12, 3) := by decide +kernel
theorem dX13_writeWord_8 : decode cX13_writeWord 8 = .ok (.aload_n 0, 1) := by decide +kernel
theorem dX13_writeWord_9 : decode cX13_writeWord 9 = .ok (.lload_n 1, 1) := by decide +kernel
theorem dX13_writeWord_10 : decode cX13_writeWord 10 = .ok (.ldc2_w 54, 3) := by decide +kernel
theorem dX13_writeWord_13 : decode cX13_writeWord 13 = .ok (.ldiv, 1) := by decide +kernel
theorem dX13_writeWord_14 : decode cX13_writeWord 14 = .ok (.invokevirtual 364, 3) := by decide +kernel
theorem dX13_writeWord_17 : decode cX13_writeWord 17 = .ok (.aload_n 0, 1) := by decide +kernel
theorem dX13_writeWord_18 : decode cX13_writeWord 18 = .ok (.bipush 96, 2) := by decide +kernel
theorem dX13_writeWord_20 : decode cX13_writeWord 20 = .ok (.lload_n 1, 1) := by decide +kernel
theorem dX13_writeWord_21 : decode cX13_writeWord 21 = .ok (.ldc2_w 54, 3) := by decide +kernel
theorem dX13_writeWord_24 : decode cX13_writeWord 24 = .ok (.lrem, 1) := by decide +kernel
theorem dX13_writeWord_25 : decode cX13_writeWord 25 = .ok (.l2i, 1) := by decide +kernel
theorem dX13_writeWord_26 : decode cX13_writeWord 26 = .ok (.iadd, 1) := by decide +kernel
theorem dX13_writeWord_27 : decode cX13_writeWord 27 = .ok (.invokevirtual 368, 3) := by decide +kernel
theorem dX13_writeWord_30 : decode cX13_writeWord 30 = .ok (.return_, 1) := by decide +kernel
theorem dX13_writeNumber_0 : decode cX13_writeNumber 0 = .ok (.iload_n 1, 1) := by decide +kernel
theorem dX13_writeNumber_1 : decode cX13_writeNumber 1 = .ok (.bipush 9, 2) := by decide +kernel
theorem dX13_writeNumber_3 : decode cX13_writeNumber 3 = .ok (.if_icmp .le 11, 3) := by decide +kernel
theorem dX13_writeNumber_6 : decode cX13_writeNumber 6 = .ok (.aload_n 0, 1) := by decide +kernel
theorem dX13_writeNumber_7 : decode cX13_writeNumber 7 = .ok (.iload_n 1, 1) := by decide +kernel
theorem dX13_writeNumber_8 : decode cX13_writeNumber 8 = .ok (.bipush 10, 2) := by decide +kernel
theorem dX13_writeNumber_10 : decode cX13_writeNumber 10 = .ok (.idiv, 1) := by decide +kernel
theorem dX13_writeNumber_11 : decode cX13_writeNumber 11 = .ok (.invokevirtual 371, 3) := by decide +kernel
theorem dX13_writeNumber_14 : decode cX13_writeNumber 14 = .ok (.aload_n 0, 1) := by decide +kernel
theorem dX13_writeNumber_15 : decode cX13_writeNumber 15 = .ok (.bipush 48, 2) := by decide +kernel
theorem dX13_writeNumber_17 : decode cX13_writeNumber 17 = .ok (.iload_n 1, 1) := by decide +kernel
theorem dX13_writeNumber_18 : decode cX13_writeNumber 18 = .ok (.bipush 10, 2) := by decide +kernel
theorem dX13_writeNumber_20 : decode cX13_writeNumber 20 = .ok (.irem, 1) := by decide +kernel
theorem dX13_writeNumber_21 : decode cX13_writeNumber 21 = .ok (.iadd, 1) := by decide +kernel
theorem dX13_writeNumber_22 : decode cX13_writeNumber 22 = .ok (.invokevirtual 368, 3) := by decide +kernel
theorem dX13_writeNumber_25 : decode cX13_writeNumber 25 = .ok (.return_, 1) := by decide +kernel
theorem dX13_banns_0 : decode cX13_banns 0 = .ok (.aload_n 0, 1) := by decide +kernel
theorem dX13_banns_1 : decode cX13_banns 1 = .ok (.iconst 0, 1) := by decide +kernel
theorem dX13_banns_2 : decode cX13_banns 2 = .ok (.putfield 1, 3) := by decide +kernel
theorem dX13_banns_5 : decode cX13_banns 5 = .ok (.aload_n 0, 1) := by decide +kernel
theorem dX13_banns_6 : decode cX13_banns 6 = .ok (.iload_n 1, 1) := by decide +kernel
theorem dX13_banns_7 : decode cX13_banns 7 = .ok (.invokevirtual 258, 3) := by decide +kernel
theorem dX13_banns_10 : decode cX13_banns 10 = .ok (.ifCond .ne 5, 3) := by decide +kernel
theorem dX13_banns_13 : decode cX13_banns 13 = .ok (.iconst (-1), 1) := by decide +kernel
theorem dX13_banns_14 : decode cX13_banns 14 = .ok (.ireturn, 1) := by decide +kernel
theorem dX13_banns_15 : decode cX13_banns 15 = .ok (.aload_n 0, 1) := by decide +kernel
theorem dX13_banns_16 : decode cX13_banns 16 = .ok (.iconst 0, 1) := by decide +kernel
theorem dX13_banns_17 : decode cX13_banns 17 = .ok (.putfield 361, 3) := by decide +kernel
theorem dX13_banns_20 : decode cX13_banns 20 = .ok (.aload_n 0, 1) := by decide +kernel
theorem dX13_banns_21 : decode cX13_banns 21 = .ok (.aload_n 0, 1) := by decide +kernel
theorem dX13_banns_22 : decode cX13_banns 22 = .ok (.getfield 113, 3) := by decide +kernel
theorem dX13_banns_25 : decode cX13_banns 25 = .ok (.aload_n 0, 1) := by decide +kernel
theorem dX13_banns_26 : decode cX13_banns 26 = .ok (.getfield 98, 3) := by decide +kernel
theorem dX13_banns_29 : decode cX13_banns 29 = .ok (.bipush 56, 2) := by decide +kernel
theorem dX13_banns_31 : decode cX13_banns 31 = .ok (.iload_n 1, 1) := by decide +kernel
theorem dX13_banns_32 : decode cX13_banns 32 = .ok (.iadd, 1) := by decide +kernel
theorem dX13_banns_33 : decode cX13_banns 33 = .ok (.iaload, 1) := by decide +kernel
theorem dX13_banns_34 : decode cX13_banns 34 = .ok (.laload, 1) := by decide +kernel
theorem dX13_banns_35 : decode cX13_banns 35 = .ok (.invokevirtual 364, 3) := by decide +kernel
theorem dX13_banns_38 : decode cX13_banns 38 = .ok (.aload_n 0, 1) := by decide +kernel
theorem dX13_banns_39 : decode cX13_banns 39 = .ok (.bipush 32, 2) := by decide +kernel
theorem dX13_banns_41 : decode cX13_banns 41 = .ok (.invokevirtual 368, 3) := by decide +kernel
theorem dX13_banns_44 : decode cX13_banns 44 = .ok (.aload_n 0, 1) := by decide +kernel
theorem dX13_banns_45 : decode cX13_banns 45 = .ok (.bipush 18, 2) := by decide +kernel
theorem dX13_banns_47 : decode cX13_banns 47 = .ok (.invokestatic 62, 3) := by decide +kernel
theorem dX13_banns_50 : decode cX13_banns 50 = .ok (.invokevirtual 364, 3) := by decide +kernel
theorem dX13_banns_53 : decode cX13_banns 53 = .ok (.aload_n 0, 1) := by decide +kernel
theorem dX13_banns_54 : decode cX13_banns 54 = .ok (.bipush 32, 2) := by decide +kernel
theorem dX13_banns_56 : decode cX13_banns 56 = .ok (.invokevirtual 368, 3) := by decide +kernel
theorem dX13_banns_59 : decode cX13_banns 59 = .ok (.aload_n 0, 1) := by decide +kernel
theorem dX13_banns_60 : decode cX13_banns 60 = .ok (.aload_n 0, 1) := by decide +kernel
theorem dX13_banns_61 : decode cX13_banns 61 = .ok (.getfield 113, 3) := by decide +kernel
theorem dX13_banns_64 : decode cX13_banns 64 = .ok (.aload_n 0, 1) := by decide +kernel
theorem dX13_banns_65 : decode cX13_banns 65 = .ok (.getfield 98, 3) := by decide +kernel
theorem dX13_banns_68 : decode cX13_banns 68 = .ok (.bipush 60, 2) := by decide +kernel
theorem dX13_banns_70 : decode cX13_banns 70 = .ok (.iload_n 1, 1) := by decide +kernel
theorem dX13_banns_71 : decode cX13_banns 71 = .ok (.iadd, 1) := by decide +kernel
theorem dX13_banns_72 : decode cX13_banns 72 = .ok (.iaload, 1) := by decide +kernel
theorem dX13_banns_73 : decode cX13_banns 73 = .ok (.laload, 1) := by decide +kernel
theorem dX13_banns_74 : decode cX13_banns 74 = .ok (.invokevirtual 364, 3) := by decide +kernel
theorem dX13_banns_77 : decode cX13_banns 77 = .ok (.aload_n 0, 1) := by decide +kernel
theorem dX13_banns_78 : decode cX13_banns 78 = .ok (.bipush 32, 2) := by decide +kernel
theorem dX13_banns_80 : decode cX13_banns 80 = .ok (.invokevirtual 368, 3) := by decide +kernel
theorem dX13_banns_83 : decode cX13_banns 83 = .ok (.aload_n 0, 1) := by decide +kernel
theorem dX13_banns_84 : decode cX13_banns 84 = .ok (.iload_n 1, 1) := by decide +kernel
theorem dX13_banns_85 : decode cX13_banns 85 = .ok (.invokevirtual 261, 3) := by decide +kernel
theorem dX13_banns_88 : decode cX13_banns 88 = .ok (.ifCond .eq 46, 3) := by decide +kernel
theorem dX13_banns_91 : decode cX13_banns 91 = .ok (.aload_n 0, 1) := by decide +kernel
theorem dX13_banns_92 : decode cX13_banns 92 = .ok (.bipush 110, 2) := by decide +kernel
theorem dX13_banns_94 : decode cX13_banns 94 = .ok (.bipush 111, 2) := by decide +kernel
theorem dX13_banns_96 : decode cX13_banns 96 = .ok (.iconst 0, 1) := by decide +kernel
theorem dX13_banns_97 : decode cX13_banns 97 = .ok (.iconst 0, 1) := by decide +kernel
theorem dX13_banns_98 : decode cX13_banns 98 = .ok (.iconst 0, 1) := by decide +kernel
theorem dX13_banns_99 : decode cX13_banns 99 = .ok (.iconst 0, 1) := by decide +kernel
theorem dX13_banns_100 : decode cX13_banns 100 = .ok (.invokestatic 58, 3) := by decide +kernel
theorem dX13_banns_103 : decode cX13_banns 103 = .ok (.invokevirtual 364, 3) := by decide +kernel
theorem dX13_banns_106 : decode cX13_banns 106 = .ok (.aload_n 0, 1) := by decide +kernel
theorem dX13_banns_107 : decode cX13_banns 107 = .ok (.bipush 32, 2) := by decide +kernel
theorem dX13_banns_109 : decode cX13_banns 109 = .ok (.invokevirtual 368, 3) := by decide +kernel
theorem dX13_banns_112 : decode cX13_banns 112 = .ok (.aload_n 0, 1) := by decide +kernel
theorem dX13_banns_113 : decode cX13_banns 113 = .ok (.bipush 109, 2) := by decide +kernel
theorem dX13_banns_115 : decode cX13_banns 115 = .ok (.bipush 111, 2) := by decide +kernel
theorem dX13_banns_117 : decode cX13_banns 117 = .ok (.bipush 114, 2) := by decide +kernel
theorem dX13_banns_119 : decode cX13_banns 119 = .ok (.bipush 101, 2) := by decide +kernel
theorem dX13_banns_121 : decode cX13_banns 121 = .ok (.iconst 0, 1) := by decide +kernel
theorem dX13_banns_122 : decode cX13_banns 122 = .ok (.iconst 0, 1) := by decide +kernel
theorem dX13_banns_123 : decode cX13_banns 123 = .ok (.invokestatic 58, 3) := by decide +kernel
theorem dX13_banns_126 : decode cX13_banns 126 = .ok (.invokevirtual 364, 3) := by decide +kernel
theorem dX13_banns_129 : decode cX13_banns 129 = .ok (.aload_n 0, 1) := by decide +kernel
theorem dX13_banns_130 : decode cX13_banns 130 = .ok (.getfield 361, 3) := by decide +kernel
theorem dX13_banns_133 : decode cX13_banns 133 = .ok (.ireturn, 1) := by decide +kernel
theorem dX13_banns_134 : decode cX13_banns 134 = .ok (.aload_n 0, 1) := by decide +kernel
theorem dX13_banns_135 : decode cX13_banns 135 = .ok (.bipush 102, 2) := by decide +kernel
theorem dX13_banns_137 : decode cX13_banns 137 = .ok (.bipush 111, 2) := by decide +kernel
theorem dX13_banns_139 : decode cX13_banns 139 = .ok (.bipush 114, 2) := by decide +kernel
theorem dX13_banns_141 : decode cX13_banns 141 = .ok (.iconst 0, 1) := by decide +kernel
theorem dX13_banns_142 : decode cX13_banns 142 = .ok (.iconst 0, 1) := by decide +kernel
theorem dX13_banns_143 : decode cX13_banns 143 = .ok (.iconst 0, 1) := by decide +kernel
theorem dX13_banns_144 : decode cX13_banns 144 = .ok (.invokestatic 58, 3) := by decide +kernel
theorem dX13_banns_147 : decode cX13_banns 147 = .ok (.invokevirtual 364, 3) := by decide +kernel
theorem dX13_banns_150 : decode cX13_banns 150 = .ok (.aload_n 0, 1) := by decide +kernel
theorem dX13_banns_151 : decode cX13_banns 151 = .ok (.bipush 32, 2) := by decide +kernel
theorem dX13_banns_153 : decode cX13_banns 153 = .ok (.invokevirtual 368, 3) := by decide +kernel
theorem dX13_banns_156 : decode cX13_banns 156 = .ok (.aload_n 0, 1) := by decide +kernel
theorem dX13_banns_157 : decode cX13_banns 157 = .ok (.iload_n 1, 1) := by decide +kernel
theorem dX13_banns_158 : decode cX13_banns 158 = .ok (.invokevirtual 315, 3) := by decide +kernel
theorem dX13_banns_161 : decode cX13_banns 161 = .ok (.istore_n 2, 1) := by decide +kernel
theorem dX13_banns_162 : decode cX13_banns 162 = .ok (.iload_n 2, 1) := by decide +kernel
theorem dX13_banns_163 : decode cX13_banns 163 = .ok (.iconst (-1), 1) := by decide +kernel
theorem dX13_banns_164 : decode cX13_banns 164 = .ok (.if_icmp .ne 14, 3) := by decide +kernel
theorem dX13_banns_167 : decode cX13_banns 167 = .ok (.aload_n 0, 1) := by decide +kernel
theorem dX13_banns_168 : decode cX13_banns 168 = .ok (.iconst 5, 1) := by decide +kernel
theorem dX13_banns_169 : decode cX13_banns 169 = .ok (.invokestatic 62, 3) := by decide +kernel
theorem dX13_banns_172 : decode cX13_banns 172 = .ok (.invokevirtual 364, 3) := by decide +kernel
theorem dX13_banns_175 : decode cX13_banns 175 = .ok (.goto 16, 3) := by decide +kernel
theorem dX13_banns_178 : decode cX13_banns 178 = .ok (.aload_n 0, 1) := by decide +kernel
theorem dX13_banns_179 : decode cX13_banns 179 = .ok (.iload_n 2, 1) := by decide +kernel
theorem dX13_banns_180 : decode cX13_banns 180 = .ok (.aload_n 0, 1) := by decide +kernel
theorem dX13_banns_181 : decode cX13_banns 181 = .ok (.getfield 98, 3) := by decide +kernel
theorem dX13_banns_184 : decode cX13_banns 184 = .ok (.bipush 102, 2) := by decide +kernel
theorem dX13_banns_186 : decode cX13_banns 186 = .ok (.iaload, 1) := by decide +kernel
theorem dX13_banns_187 : decode cX13_banns 187 = .ok (.isub, 1) := by decide +kernel
theorem dX13_banns_188 : decode cX13_banns 188 = .ok (.invokevirtual 371, 3) := by decide +kernel
theorem dX13_banns_191 : decode cX13_banns 191 = .ok (.aload_n 0, 1) := by decide +kernel
theorem dX13_banns_192 : decode cX13_banns 192 = .ok (.getfield 361, 3) := by decide +kernel
theorem dX13_banns_195 : decode cX13_banns 195 = .ok (.ireturn, 1) := by decide +kernel
theorem dX13_byteAt_0 : decode cX13_byteAt 0 = .ok (.aload_n 0, 1) := by decide +kernel
theorem dX13_byteAt_1 : decode cX13_byteAt 1 = .ok (.iconst 0, 1) := by decide +kernel
theorem dX13_byteAt_2 : decode cX13_byteAt 2 = .ok (.putfield 1, 3) := by decide +kernel
theorem dX13_byteAt_5 : decode cX13_byteAt 5 = .ok (.iload_n 1, 1) := by decide +kernel
theorem dX13_byteAt_6 : decode cX13_byteAt 6 = .ok (.iconst 0, 1) := by decide +kernel
theorem dX13_byteAt_7 : decode cX13_byteAt 7 = .ok (.aload_n 0, 1) := by decide +kernel
theorem dX13_byteAt_8 : decode cX13_byteAt 8 = .ok (.getfield 361, 3) := by decide +kernel
theorem dX13_byteAt_11 : decode cX13_byteAt 11 = .ok (.iconst 1, 1) := by decide +kernel
theorem dX13_byteAt_12 : decode cX13_byteAt 12 = .ok (.isub, 1) := by decide +kernel
theorem dX13_byteAt_13 : decode cX13_byteAt 13 = .ok (.invokestatic 75, 3) := by decide +kernel
theorem dX13_byteAt_16 : decode cX13_byteAt 16 = .ok (.ifCond .eq 12, 3) := by decide +kernel
theorem dX13_byteAt_19 : decode cX13_byteAt 19 = .ok (.aload_n 0, 1) := by decide +kernel
theorem dX13_byteAt_20 : decode cX13_byteAt 20 = .ok (.getfield 136, 3) := by decide +kernel
theorem dX13_byteAt_23 : decode cX13_byteAt 23 = .ok (.iload_n 1, 1) := by decide +kernel
theorem dX13_byteAt_24 : decode cX13_byteAt 24 = .ok (.iaload, 1) := by decide +kernel
theorem dX13_byteAt_25 : decode cX13_byteAt 25 = .ok (.goto 4, 3) := by decide +kernel
theorem dX13_byteAt_28 : decode cX13_byteAt 28 = .ok (.iconst (-1), 1) := by decide +kernel
theorem dX13_byteAt_29 : decode cX13_byteAt 29 = .ok (.ireturn, 1) := by decide +kernel
theorem dX13_draw_0 : decode cX13_draw 0 = .ok (.aload_n 0, 1) := by decide +kernel
theorem dX13_draw_1 : decode cX13_draw 1 = .ok (.aload_n 0, 1) := by decide +kernel
theorem dX13_draw_2 : decode cX13_draw 2 = .ok (.getfield 374, 3) := by decide +kernel
theorem dX13_draw_5 : decode cX13_draw 5 = .ok (.ldc_w 377, 3) := by decide +kernel
theorem dX13_draw_8 : decode cX13_draw 8 = .ok (.imul, 1) := by decide +kernel
theorem dX13_draw_9 : decode cX13_draw 9 = .ok (.sipush 12345, 3) := by decide +kernel
theorem dX13_draw_12 : decode cX13_draw 12 = .ok (.iadd, 1) := by decide +kernel
theorem dX13_draw_13 : decode cX13_draw 13 = .ok (.putfield 374, 3) := by decide +kernel
theorem dX13_draw_16 : decode cX13_draw 16 = .ok (.aload_n 0, 1) := by decide +kernel
theorem dX13_draw_17 : decode cX13_draw 17 = .ok (.getfield 374, 3) := by decide +kernel
theorem dX13_draw_20 : decode cX13_draw 20 = .ok (.bipush 8, 2) := by decide +kernel
theorem dX13_draw_22 : decode cX13_draw 22 = .ok (.iushr, 1) := by decide +kernel
theorem dX13_draw_23 : decode cX13_draw 23 = .ok (.iload_n 1, 1) := by decide +kernel
theorem dX13_draw_24 : decode cX13_draw 24 = .ok (.irem, 1) := by decide +kernel
theorem dX13_draw_25 : decode cX13_draw 25 = .ok (.ireturn, 1) := by decide +kernel
theorem dX13_tryTo_0 : decode cX13_tryTo 0 = .ok (.aload_n 0, 1) := by decide +kernel
theorem dX13_tryTo_1 : decode cX13_tryTo 1 = .ok (.iload_n 1, 1) := by decide +kernel
theorem dX13_tryTo_2 : decode cX13_tryTo 2 = .ok (.iload_n 2, 1) := by decide +kernel
theorem dX13_tryTo_3 : decode cX13_tryTo 3 = .ok (.iload_n 3, 1) := by decide +kernel
theorem dX13_tryTo_4 : decode cX13_tryTo 4 = .ok (.invokevirtual 289, 3) := by decide +kernel
theorem dX13_tryTo_7 : decode cX13_tryTo 7 = .ok (.ifCond .ne 10, 3) := by decide +kernel
theorem dX13_tryTo_10 : decode cX13_tryTo 10 = .ok (.aload_n 0, 1) := by decide +kernel
theorem dX13_tryTo_11 : decode cX13_tryTo 11 = .ok (.iload_n 1, 1) := by decide +kernel
theorem dX13_tryTo_12 : decode cX13_tryTo 12 = .ok (.iload_n 2, 1) := by decide +kernel
theorem dX13_tryTo_13 : decode cX13_tryTo 13 = .ok (.iload_n 3, 1) := by decide +kernel
theorem dX13_tryTo_14 : decode cX13_tryTo 14 = .ok (.invokevirtual 296, 3) := by decide +kernel
theorem dX13_tryTo_17 : decode cX13_tryTo 17 = .ok (.return_, 1) := by decide +kernel
theorem dX13_drawHours_0 : decode cX13_drawHours 0 = .ok (.aload_n 0, 1) := by decide +kernel
theorem dX13_drawHours_1 : decode cX13_drawHours 1 = .ok (.iload_n 2, 1) := by decide +kernel
theorem dX13_drawHours_2 : decode cX13_drawHours 2 = .ok (.putfield 374, 3) := by decide +kernel
theorem dX13_drawHours_5 : decode cX13_drawHours 5 = .ok (.iload_n 1, 1) := by decide +kernel
theorem dX13_drawHours_6 : decode cX13_drawHours 6 = .ok (.sipush 600, 3) := by decide +kernel
theorem dX13_drawHours_9 : decode cX13_drawHours 9 = .ok (.aload_n 0, 1) := by decide +kernel
theorem dX13_drawHours_10 : decode cX13_drawHours 10 = .ok (.getfield 98, 3) := by decide +kernel
theorem dX13_drawHours_13 : decode cX13_drawHours 13 = .ok (.bipush 102, 2) := by decide +kernel
theorem dX13_drawHours_15 : decode cX13_drawHours 15 = .ok (.iaload, 1) := by decide +kernel
theorem dX13_drawHours_16 : decode cX13_drawHours 16 = .ok (.isub, 1) := by decide +kernel
theorem dX13_drawHours_17 : decode cX13_drawHours 17 = .ok (.invokestatic 227, 3) := by decide +kernel
theorem dX13_drawHours_20 : decode cX13_drawHours 20 = .ok (.istore_n 3, 1) := by decide +kernel
theorem dX13_drawHours_21 : decode cX13_drawHours 21 = .ok (.iconst 0, 1) := by decide +kernel
theorem dX13_drawHours_22 : decode cX13_drawHours 22 = .ok (.istore 4, 2) := by decide +kernel
theorem dX13_drawHours_24 : decode cX13_drawHours 24 = .ok (.iload 4, 2) := by decide +kernel
theorem dX13_drawHours_26 : decode cX13_drawHours 26 = .ok (.iload_n 3, 1) := by decide +kernel
theorem dX13_drawHours_27 : decode cX13_drawHours 27 = .ok (.if_icmp .ge 139, 3) := by decide +kernel
theorem dX13_drawHours_30 : decode cX13_drawHours 30 = .ok (.iconst 0, 1) := by decide +kernel
theorem dX13_drawHours_31 : decode cX13_drawHours 31 = .ok (.istore 5, 2) := by decide +kernel
theorem dX13_drawHours_33 : decode cX13_drawHours 33 = .ok (.iload 5, 2) := by decide +kernel
theorem dX13_drawHours_35 : decode cX13_drawHours 35 = .ok (.aload_n 0, 1) := by decide +kernel
theorem dX13_drawHours_36 : decode cX13_drawHours 36 = .ok (.getfield 98, 3) := by decide +kernel
theorem dX13_drawHours_39 : decode cX13_drawHours 39 = .ok (.iconst 0, 1) := by decide +kernel
theorem dX13_drawHours_40 : decode cX13_drawHours 40 = .ok (.iaload, 1) := by decide +kernel
theorem dX13_drawHours_41 : decode cX13_drawHours 41 = .ok (.if_icmp .ge 71, 3) := by decide +kernel
theorem dX13_drawHours_44 : decode cX13_drawHours 44 = .ok (.aload_n 0, 1) := by decide +kernel
theorem dX13_drawHours_45 : decode cX13_drawHours 45 = .ok (.bipush 12, 2) := by decide +kernel
theorem dX13_drawHours_47 : decode cX13_drawHours 47 = .ok (.invokevirtual 378, 3) := by decide +kernel
theorem dX13_drawHours_50 : decode cX13_drawHours 50 = .ok (.istore 6, 2) := by decide +kernel
theorem dX13_drawHours_52 : decode cX13_drawHours 52 = .ok (.iload 6, 2) := by decide +kernel
theorem dX13_drawHours_54 : decode cX13_drawHours 54 = .ok (.ifCond .ne 21, 3) := by decide +kernel
theorem dX13_drawHours_57 : decode cX13_drawHours 57 = .ok (.aload_n 0, 1) := by decide +kernel
theorem dX13_drawHours_58 : decode cX13_drawHours 58 = .ok (.iconst 2, 1) := by decide +kernel
theorem dX13_drawHours_59 : decode cX13_drawHours 59 = .ok (.iload 5, 2) := by decide +kernel
theorem dX13_drawHours_61 : decode cX13_drawHours 61 = .ok (.iconst 1, 1) := by decide +kernel
theorem dX13_drawHours_62 : decode cX13_drawHours 62 = .ok (.aload_n 0, 1) := by decide +kernel
theorem dX13_drawHours_63 : decode cX13_drawHours 63 = .ok (.bipush 10, 2) := by decide +kernel
theorem dX13_drawHours_65 : decode cX13_drawHours 65 = .ok (.invokevirtual 378, 3) := by decide +kernel
theorem dX13_drawHours_68 : decode cX13_drawHours 68 = .ok (.iadd, 1) := by decide +kernel
theorem dX13_drawHours_69 : decode cX13_drawHours 69 = .ok (.invokevirtual 381, 3) := by decide +kernel
theorem dX13_drawHours_72 : decode cX13_drawHours 72 = .ok (.goto 34, 3) := by decide +kernel
theorem dX13_drawHours_75 : decode cX13_drawHours 75 = .ok (.iload 6, 2) := by decide +kernel
theorem dX13_drawHours_77 : decode cX13_drawHours 77 = .ok (.iconst 1, 1) := by decide +kernel
theorem dX13_drawHours_78 : decode cX13_drawHours 78 = .ok (.if_icmp .ne 14, 3) := by decide +kernel
theorem dX13_drawHours_81 : decode cX13_drawHours 81 = .ok (.aload_n 0, 1) := by decide +kernel
theorem dX13_drawHours_82 : decode cX13_drawHours 82 = .ok (.iconst 0, 1) := by decide +kernel
theorem dX13_drawHours_83 : decode cX13_drawHours 83 = .ok (.iload 5, 2) := by decide +kernel
theorem dX13_drawHours_85 : decode cX13_drawHours 85 = .ok (.iconst 0, 1) := by decide +kernel
theorem dX13_drawHours_86 : decode cX13_drawHours 86 = .ok (.invokevirtual 381, 3) := by decide +kernel
theorem dX13_drawHours_89 : decode cX13_drawHours 89 = .ok (.goto 17, 3) := by decide +kernel
theorem dX13_drawHours_92 : decode cX13_drawHours 92 = .ok (.iload 6, 2) := by decide +kernel
theorem dX13_drawHours_94 : decode cX13_drawHours 94 = .ok (.iconst 2, 1) := by decide +kernel
theorem dX13_drawHours_95 : decode cX13_drawHours 95 = .ok (.if_icmp .ne 11, 3) := by decide +kernel
theorem dX13_drawHours_98 : decode cX13_drawHours 98 = .ok (.aload_n 0, 1) := by decide +kernel
theorem dX13_drawHours_99 : decode cX13_drawHours 99 = .ok (.iconst 1, 1) := by decide +kernel
theorem dX13_drawHours_100 : decode cX13_drawHours 100 = .ok (.iload 5, 2) := by decide +kernel
theorem dX13_drawHours_102 : decode cX13_drawHours 102 = .ok (.iconst 0, 1) := by decide +kernel
theorem dX13_drawHours_103 : decode cX13_drawHours 103 = .ok (.invokevirtual 381, 3) := by decide +kernel
theorem dX13_drawHours_106 : decode cX13_drawHours 106 = .ok (.iinc 5 1, 3) := by decide +kernel
theorem dX13_drawHours_109 : decode cX13_drawHours 109 = .ok (.goto (-76), 3) := by decide +kernel
theorem dX13_drawHours_112 : decode cX13_drawHours 112 = .ok (.iconst 0, 1) := by decide +kernel
theorem dX13_drawHours_113 : decode cX13_drawHours 113 = .ok (.istore 5, 2) := by decide +kernel
theorem dX13_drawHours_115 : decode cX13_drawHours 115 = .ok (.iload 5, 2) := by decide +kernel
theorem dX13_drawHours_117 : decode cX13_drawHours 117 = .ok (.aload_n 0, 1) := by decide +kernel
theorem dX13_drawHours_118 : decode cX13_drawHours 118 = .ok (.getfield 98, 3) := by decide +kernel
theorem dX13_drawHours_121 : decode cX13_drawHours 121 = .ok (.iconst 1, 1) := by decide +kernel
theorem dX13_drawHours_122 : decode cX13_drawHours 122 = .ok (.iaload, 1) := by decide +kernel
theorem dX13_drawHours_123 : decode cX13_drawHours 123 = .ok (.if_icmp .ge 33, 3) := by decide +kernel
theorem dX13_drawHours_126 : decode cX13_drawHours 126 = .ok (.aload_n 0, 1) := by decide +kernel
theorem dX13_drawHours_127 : decode cX13_drawHours 127 = .ok (.bipush 30, 2) := by decide +kernel
theorem dX13_drawHours_129 : decode cX13_drawHours 129 = .ok (.invokevirtual 378, 3) := by decide +kernel
theorem dX13_drawHours_132 : decode cX13_drawHours 132 = .ok (.ifCond .ne 18, 3) := by decide +kernel
theorem dX13_drawHours_135 : decode cX13_drawHours 135 = .ok (.aload_n 0, 1) := by decide +kernel
theorem dX13_drawHours_136 : decode cX13_drawHours 136 = .ok (.iconst 5, 1) := by decide +kernel
theorem dX13_drawHours_137 : decode cX13_drawHours 137 = .ok (.iload 5, 2) := by decide +kernel
theorem dX13_drawHours_139 : decode cX13_drawHours 139 = .ok (.iconst 1, 1) := by decide +kernel
theorem dX13_drawHours_140 : decode cX13_drawHours 140 = .ok (.aload_n 0, 1) := by decide +kernel
theorem dX13_drawHours_141 : decode cX13_drawHours 141 = .ok (.bipush 20, 2) := by decide +kernel
theorem dX13_drawHours_143 : decode cX13_drawHours 143 = .ok (.invokevirtual 378, 3) := by decide +kernel
theorem dX13_drawHours_146 : decode cX13_drawHours 146 = .ok (.iadd, 1) := by decide +kernel
theorem dX13_drawHours_147 : decode cX13_drawHours 147 = .ok (.invokevirtual 381, 3) := by decide +kernel
theorem dX13_drawHours_150 : decode cX13_drawHours 150 = .ok (.iinc 5 1, 3) := by decide +kernel
theorem dX13_drawHours_153 : decode cX13_drawHours 153 = .ok (.goto (-38), 3) := by decide +kernel
theorem dX13_drawHours_156 : decode cX13_drawHours 156 = .ok (.aload_n 0, 1) := by decide +kernel
theorem dX13_drawHours_157 : decode cX13_drawHours 157 = .ok (.invokevirtual 306, 3) := by decide +kernel
theorem dX13_drawHours_160 : decode cX13_drawHours 160 = .ok (.iinc 4 1, 3) := by decide +kernel
theorem dX13_drawHours_163 : decode cX13_drawHours 163 = .ok (.goto (-139), 3) := by decide +kernel
theorem dX13_drawHours_166 : decode cX13_drawHours 166 = .ok (.iload_n 3, 1) := by decide +kernel
theorem dX13_drawHours_167 : decode cX13_drawHours 167 = .ok (.ireturn, 1) := by decide +kernel
theorem dX13_drawn_0 : decode cX13_drawn 0 = .ok (.aload_n 0, 1) := by decide +kernel
theorem dX13_drawn_1 : decode cX13_drawn 1 = .ok (.iconst 0, 1) := by decide +kernel
theorem dX13_drawn_2 : decode cX13_drawn 2 = .ok (.putfield 1, 3) := by decide +kernel
theorem dX13_drawn_5 : decode cX13_drawn 5 = .ok (.iload_n 1, 1) := by decide +kernel
theorem dX13_drawn_6 : decode cX13_drawn 6 = .ok (.iconst 1, 1) := by decide +kernel
theorem dX13_drawn_7 : decode cX13_drawn 7 = .ok (.bipush 60, 2) := by decide +kernel
theorem dX13_drawn_9 : decode cX13_drawn 9 = .ok (.invokestatic 75, 3) := by decide +kernel
theorem dX13_drawn_12 : decode cX13_drawn 12 = .ok (.ifCond .eq 12, 3) := by decide +kernel
theorem dX13_drawn_15 : decode cX13_drawn 15 = .ok (.aload_n 0, 1) := by decide +kernel
theorem dX13_drawn_16 : decode cX13_drawn 16 = .ok (.getfield 98, 3) := by decide +kernel
theorem dX13_drawn_19 : decode cX13_drawn 19 = .ok (.iconst 0, 1) := by decide +kernel
theorem dX13_drawn_20 : decode cX13_drawn 20 = .ok (.iaload, 1) := by decide +kernel
theorem dX13_drawn_21 : decode cX13_drawn 21 = .ok (.ifCond .ne 5, 3) := by decide +kernel
theorem dX13_drawn_24 : decode cX13_drawn 24 = .ok (.iconst (-1), 1) := by decide +kernel
theorem dX13_drawn_25 : decode cX13_drawn 25 = .ok (.ireturn, 1) := by decide +kernel
theorem dX13_drawn_26 : decode cX13_drawn 26 = .ok (.aload_n 0, 1) := by decide +kernel
theorem dX13_drawn_27 : decode cX13_drawn 27 = .ok (.getfield 98, 3) := by decide +kernel
theorem dX13_drawn_30 : decode cX13_drawn 30 = .ok (.bipush 102, 2) := by decide +kernel
theorem dX13_drawn_32 : decode cX13_drawn 32 = .ok (.iaload, 1) := by decide +kernel
theorem dX13_drawn_33 : decode cX13_drawn 33 = .ok (.sipush 600, 3) := by decide +kernel
theorem dX13_drawn_36 : decode cX13_drawn 36 = .ok (.if_icmp .ne 5, 3) := by decide +kernel
theorem dX13_drawn_39 : decode cX13_drawn 39 = .ok (.iconst 0, 1) := by decide +kernel
theorem dX13_drawn_40 : decode cX13_drawn 40 = .ok (.ireturn, 1) := by decide +kernel
theorem dX13_drawn_41 : decode cX13_drawn 41 = .ok (.aload_n 0, 1) := by decide +kernel
theorem dX13_drawn_42 : decode cX13_drawn 42 = .ok (.invokevirtual 293, 3) := by decide +kernel
theorem dX13_drawn_45 : decode cX13_drawn 45 = .ok (.aload_n 0, 1) := by decide +kernel
theorem dX13_drawn_46 : decode cX13_drawn 46 = .ok (.iload_n 1, 1) := by decide +kernel
theorem dX13_drawn_47 : decode cX13_drawn 47 = .ok (.iload_n 2, 1) := by decide +kernel
theorem dX13_drawn_48 : decode cX13_drawn 48 = .ok (.invokevirtual 384, 3) := by decide +kernel
theorem dX13_drawn_51 : decode cX13_drawn 51 = .ok (.ireturn, 1) := by decide +kernel
theorem dX13_odds_0 : decode cX13_odds 0 = .ok (.aload_n 0, 1) := by decide +kernel
theorem dX13_odds_1 : decode cX13_odds 1 = .ok (.iconst 0, 1) := by decide +kernel
theorem dX13_odds_2 : decode cX13_odds 2 = .ok (.putfield 1, 3) := by decide +kernel
theorem dX13_odds_5 : decode cX13_odds 5 = .ok (.aload_n 0, 1) := by decide +kernel
theorem dX13_odds_6 : decode cX13_odds 6 = .ok (.iload_n 1, 1) := by decide +kernel
theorem dX13_odds_7 : decode cX13_odds 7 = .ok (.invokevirtual 258, 3) := by decide +kernel
theorem dX13_odds_10 : decode cX13_odds 10 = .ok (.ifCond .eq 13, 3) := by decide +kernel
theorem dX13_odds_13 : decode cX13_odds 13 = .ok (.iload_n 2, 1) := by decide +kernel
theorem dX13_odds_14 : decode cX13_odds 14 = .ok (.iconst 1, 1) := by decide +kernel
theorem dX13_odds_15 : decode cX13_odds 15 = .ok (.bipush 30, 2) := by decide +kernel
theorem dX13_odds_17 : decode cX13_odds 17 = .ok (.invokestatic 75, 3) := by decide +kernel
theorem dX13_odds_20 : decode cX13_odds 20 = .ok (.ifCond .ne 5, 3) := by decide +kernel
theorem dX13_odds_23 : decode cX13_odds 23 = .ok (.iconst (-1), 1) := by decide +kernel
theorem dX13_odds_24 : decode cX13_odds 24 = .ok (.ireturn, 1) := by decide +kernel
theorem dX13_odds_25 : decode cX13_odds 25 = .ok (.aload_n 0, 1) := by decide +kernel
theorem dX13_odds_26 : decode cX13_odds 26 = .ok (.invokevirtual 318, 3) := by decide +kernel
theorem dX13_odds_29 : decode cX13_odds 29 = .ok (.iconst 0, 1) := by decide +kernel
theorem dX13_odds_30 : decode cX13_odds 30 = .ok (.istore 4, 2) := by decide +kernel
theorem dX13_odds_32 : decode cX13_odds 32 = .ok (.iconst 0, 1) := by decide +kernel
theorem dX13_odds_33 : decode cX13_odds 33 = .ok (.istore 5, 2) := by decide +kernel
theorem dX13_odds_35 : decode cX13_odds 35 = .ok (.iload 5, 2) := by decide +kernel
theorem dX13_odds_37 : decode cX13_odds 37 = .ok (.iload_n 2, 1) := by decide +kernel
theorem dX13_odds_38 : decode cX13_odds 38 = .ok (.if_icmp .ge 35, 3) := by decide +kernel
theorem dX13_odds_41 : decode cX13_odds 41 = .ok (.aload_n 0, 1) := by decide +kernel
theorem dX13_odds_42 : decode cX13_odds 42 = .ok (.bipush 48, 2) := by decide +kernel
theorem dX13_odds_44 : decode cX13_odds 44 = .ok (.iload_n 3, 1) := by decide +kernel
theorem dX13_odds_45 : decode cX13_odds 45 = .ok (.iload 5, 2) := by decide +kernel
theorem dX13_odds_47 : decode cX13_odds 47 = .ok (.iadd, 1) := by decide +kernel
theorem dX13_odds_48 : decode cX13_odds 48 = .ok (.invokevirtual 384, 3) := by decide +kernel
theorem dX13_odds_51 : decode cX13_odds 51 = .ok (.pop, 1) := by decide +kernel
theorem dX13_odds_52 : decode cX13_odds 52 = .ok (.aload_n 0, 1) := by decide +kernel
theorem dX13_odds_53 : decode cX13_odds 53 = .ok (.iload_n 1, 1) := by decide +kernel
theorem dX13_odds_54 : decode cX13_odds 54 = .ok (.invokevirtual 261, 3) := by decide +kernel
theorem dX13_odds_57 : decode cX13_odds 57 = .ok (.ifCond .ne 6, 3) := by decide +kernel
theorem dX13_odds_60 : decode cX13_odds 60 = .ok (.iinc 4 1, 3) := by decide +kernel
theorem dX13_odds_63 : decode cX13_odds 63 = .ok (.aload_n 0, 1) := by decide +kernel
theorem dX13_odds_64 : decode cX13_odds 64 = .ok (.invokevirtual 321, 3) := by decide +kernel
theorem dX13_odds_67 : decode cX13_odds 67 = .ok (.iinc 5 1, 3) := by decide +kernel
theorem dX13_odds_70 : decode cX13_odds 70 = .ok (.goto (-35), 3) := by decide +kernel
theorem dX13_odds_73 : decode cX13_odds 73 = .ok (.iload 4, 2) := by decide +kernel
theorem dX13_odds_75 : decode cX13_odds 75 = .ok (.ireturn, 1) := by decide +kernel
theorem dX13_readNamed_0 : decode cX13_readNamed 0 = .ok (.aload_n 0, 1) := by decide +kernel
theorem dX13_readNamed_1 : decode cX13_readNamed 1 = .ok (.invokevirtual 154, 3) := by decide +kernel
theorem dX13_readNamed_4 : decode cX13_readNamed 4 = .ok (.ifCond .ne 9, 3) := by decide +kernel
theorem dX13_readNamed_7 : decode cX13_readNamed 7 = .ok (.aload_n 0, 1) := by decide +kernel
theorem dX13_readNamed_8 : decode cX13_readNamed 8 = .ok (.iconst 1, 1) := by decide +kernel
theorem dX13_readNamed_9 : decode cX13_readNamed 9 = .ok (.invokevirtual 72, 3) := by decide +kernel
theorem dX13_readNamed_12 : decode cX13_readNamed 12 = .ok (.ireturn, 1) := by decide +kernel
theorem dX13_readNamed_13 : decode cX13_readNamed 13 = .ok (.aload_n 0, 1) := by decide +kernel
theorem dX13_readNamed_14 : decode cX13_readNamed 14 = .ok (.aload_n 0, 1) := by decide +kernel
theorem dX13_readNamed_15 : decode cX13_readNamed 15 = .ok (.getfield 113, 3) := by decide +kernel
theorem dX13_readNamed_18 : decode cX13_readNamed 18 = .ok (.iload_n 1, 1) := by decide +kernel
theorem dX13_readNamed_19 : decode cX13_readNamed 19 = .ok (.iload_n 2, 1) := by decide +kernel
theorem dX13_readNamed_20 : decode cX13_readNamed 20 = .ok (.aload_n 0, 1) := by decide +kernel
theorem dX13_readNamed_21 : decode cX13_readNamed 21 = .ok (.getfield 43, 3) := by decide +kernel
theorem dX13_readNamed_24 : decode cX13_readNamed 24 = .ok (.invokestatic 158, 3) := by decide +kernel
theorem dX13_readNamed_27 : decode cX13_readNamed 27 = .ok (.putfield 79, 3) := by decide +kernel
theorem dX13_readNamed_30 : decode cX13_readNamed 30 = .ok (.aload_n 0, 1) := by decide +kernel
theorem dX13_readNamed_31 : decode cX13_readNamed 31 = .ok (.getfield 79, 3) := by decide +kernel
theorem dX13_readNamed_34 : decode cX13_readNamed 34 = .ok (.iconst (-1), 1) := by decide +kernel
theorem dX13_readNamed_35 : decode cX13_readNamed 35 = .ok (.if_icmp .ne 9, 3) := by decide +kernel
theorem dX13_readNamed_38 : decode cX13_readNamed 38 = .ok (.aload_n 0, 1) := by decide +kernel
theorem dX13_readNamed_39 : decode cX13_readNamed 39 = .ok (.iconst 3, 1) := by decide +kernel
theorem dX13_readNamed_40 : decode cX13_readNamed 40 = .ok (.invokevirtual 72, 3) := by decide +kernel
theorem dX13_readNamed_43 : decode cX13_readNamed 43 = .ok (.ireturn, 1) := by decide +kernel
theorem dX13_readNamed_44 : decode cX13_readNamed 44 = .ok (.aload_n 0, 1) := by decide +kernel
theorem dX13_readNamed_45 : decode cX13_readNamed 45 = .ok (.invokevirtual 82, 3) := by decide +kernel
theorem dX13_readNamed_48 : decode cX13_readNamed 48 = .ok (.iconst 1, 1) := by decide +kernel
theorem dX13_readNamed_49 : decode cX13_readNamed 49 = .ok (.ireturn, 1) := by decide +kernel
theorem dX13_readCount_0 : decode cX13_readCount 0 = .ok (.aload_n 0, 1) := by decide +kernel
theorem dX13_readCount_1 : decode cX13_readCount 1 = .ok (.getfield 139, 3) := by decide +kernel
theorem dX13_readCount_4 : decode cX13_readCount 4 = .ok (.iload_n 1, 1) := by decide +kernel
theorem dX13_readCount_5 : decode cX13_readCount 5 = .ok (.iload_n 2, 1) := by decide +kernel
theorem dX13_readCount_6 : decode cX13_readCount 6 = .ok (.iastore, 1) := by decide +kernel
theorem dX13_readCount_7 : decode cX13_readCount 7 = .ok (.aload_n 0, 1) := by decide +kernel
theorem dX13_readCount_8 : decode cX13_readCount 8 = .ok (.invokevirtual 82, 3) := by decide +kernel
theorem dX13_readCount_11 : decode cX13_readCount 11 = .ok (.aload_n 0, 1) := by decide +kernel
theorem dX13_readCount_12 : decode cX13_readCount 12 = .ok (.iload_n 3, 1) := by decide +kernel
theorem dX13_readCount_13 : decode cX13_readCount 13 = .ok (.iload 4, 2) := by decide +kernel
theorem dX13_readCount_15 : decode cX13_readCount 15 = .ok (.invokevirtual 172, 3) := by decide +kernel
theorem dX13_readCount_18 : decode cX13_readCount 18 = .ok (.ifCond .ne 5, 3) := by decide +kernel
theorem dX13_readCount_21 : decode cX13_readCount 21 = .ok (.iconst 0, 1) := by decide +kernel
theorem dX13_readCount_22 : decode cX13_readCount 22 = .ok (.ireturn, 1) := by decide +kernel
theorem dX13_readCount_23 : decode cX13_readCount 23 = .ok (.aload_n 0, 1) := by decide +kernel
theorem dX13_readCount_24 : decode cX13_readCount 24 = .ok (.getfield 139, 3) := by decide +kernel
theorem dX13_readCount_27 : decode cX13_readCount 27 = .ok (.iload_n 1, 1) := by decide +kernel
theorem dX13_readCount_28 : decode cX13_readCount 28 = .ok (.iconst 2, 1) := by decide +kernel
theorem dX13_readCount_29 : decode cX13_readCount 29 = .ok (.iadd, 1) := by decide +kernel
theorem dX13_readCount_30 : decode cX13_readCount 30 = .ok (.aload_n 0, 1) := by decide +kernel
theorem dX13_readCount_31 : decode cX13_readCount 31 = .ok (.getfield 79, 3) := by decide +kernel
theorem dX13_readCount_34 : decode cX13_readCount 34 = .ok (.iastore, 1) := by decide +kernel
theorem dX13_readCount_35 : decode cX13_readCount 35 = .ok (.iconst 1, 1) := by decide +kernel
theorem dX13_readCount_36 : decode cX13_readCount 36 = .ok (.ireturn, 1) := by decide +kernel
theorem dX13_readPersonDoes_0 : decode cX13_readPersonDoes 0 = .ok (.aload_n 0, 1) := by decide +kernel
theorem dX13_readPersonDoes_1 : decode cX13_readPersonDoes 1 = .ok (.bipush 12, 2) := by decide +kernel
theorem dX13_readPersonDoes_3 : decode cX13_readPersonDoes 3 = .ok (.invokevirtual 191, 3) := by decide +kernel
theorem dX13_readPersonDoes_6 : decode cX13_readPersonDoes 6 = .ok (.ifCond .eq 13, 3) := by decide +kernel
theorem dX13_readPersonDoes_9 : decode cX13_readPersonDoes 9 = .ok (.aload_n 0, 1) := by decide +kernel
theorem dX13_readPersonDoes_10 : decode cX13_readPersonDoes 10 = .ok (.iload_n 1, 1) := by decide +kernel
theorem dX13_readPersonDoes_11 : decode cX13_readPersonDoes 11 = .ok (.iconst 2, 1) := by decide +kernel
theorem dX13_readPersonDoes_12 : decode cX13_readPersonDoes 12 = .ok (.iconst 1, 1) := by decide +kernel
theorem dX13_readPersonDoes_13 : decode cX13_readPersonDoes 13 = .ok (.bipush 20, 2) := by decide +kernel
theorem dX13_readPersonDoes_15 : decode cX13_readPersonDoes 15 = .ok (.invokevirtual 387, 3) := by decide +kernel
theorem dX13_readPersonDoes_18 : decode cX13_readPersonDoes 18 = .ok (.ireturn, 1) := by decide +kernel
theorem dX13_readPersonDoes_19 : decode cX13_readPersonDoes 19 = .ok (.aload_n 0, 1) := by decide +kernel
theorem dX13_readPersonDoes_20 : decode cX13_readPersonDoes 20 = .ok (.bipush 10, 2) := by decide +kernel
theorem dX13_readPersonDoes_22 : decode cX13_readPersonDoes 22 = .ok (.invokevirtual 191, 3) := by decide +kernel
theorem dX13_readPersonDoes_25 : decode cX13_readPersonDoes 25 = .ok (.ifCond .ne 18, 3) := by decide +kernel
theorem dX13_readPersonDoes_28 : decode cX13_readPersonDoes 28 = .ok (.aload_n 0, 1) := by decide +kernel
theorem dX13_readPersonDoes_29 : decode cX13_readPersonDoes 29 = .ok (.bipush 11, 2) := by decide +kernel
theorem dX13_readPersonDoes_31 : decode cX13_readPersonDoes 31 = .ok (.invokevirtual 191, 3) := by decide +kernel
theorem dX13_readPersonDoes_34 : decode cX13_readPersonDoes 34 = .ok (.ifCond .ne 9, 3) := by decide +kernel
theorem dX13_readPersonDoes_37 : decode cX13_readPersonDoes 37 = .ok (.aload_n 0, 1) := by decide +kernel
theorem dX13_readPersonDoes_38 : decode cX13_readPersonDoes 38 = .ok (.iconst 1, 1) := by decide +kernel
theorem dX13_readPersonDoes_39 : decode cX13_readPersonDoes 39 = .ok (.invokevirtual 72, 3) := by decide +kernel
theorem dX13_readPersonDoes_42 : decode cX13_readPersonDoes 42 = .ok (.ireturn, 1) := by decide +kernel
theorem dX13_readPersonDoes_43 : decode cX13_readPersonDoes 43 = .ok (.aload_n 0, 1) := by decide +kernel
theorem dX13_readPersonDoes_44 : decode cX13_readPersonDoes 44 = .ok (.getfield 139, 3) := by decide +kernel
theorem dX13_readPersonDoes_47 : decode cX13_readPersonDoes 47 = .ok (.iload_n 1, 1) := by decide +kernel
theorem dX13_readPersonDoes_48 : decode cX13_readPersonDoes 48 = .ok (.aload_n 0, 1) := by decide +kernel
theorem dX13_readPersonDoes_49 : decode cX13_readPersonDoes 49 = .ok (.bipush 10, 2) := by decide +kernel
theorem dX13_readPersonDoes_51 : decode cX13_readPersonDoes 51 = .ok (.invokevirtual 191, 3) := by decide +kernel
theorem dX13_readPersonDoes_54 : decode cX13_readPersonDoes 54 = .ok (.ifCond .eq 7, 3) := by decide +kernel
theorem dX13_readPersonDoes_57 : decode cX13_readPersonDoes 57 = .ok (.iconst 0, 1) := by decide +kernel
theorem dX13_readPersonDoes_58 : decode cX13_readPersonDoes 58 = .ok (.goto 4, 3) := by decide +kernel
theorem dX13_readPersonDoes_61 : decode cX13_readPersonDoes 61 = .ok (.iconst 1, 1) := by decide +kernel
theorem dX13_readPersonDoes_62 : decode cX13_readPersonDoes 62 = .ok (.iastore, 1) := by decide +kernel
theorem dX13_readPersonDoes_63 : decode cX13_readPersonDoes 63 = .ok (.aload_n 0, 1) := by decide +kernel
theorem dX13_readPersonDoes_64 : decode cX13_readPersonDoes 64 = .ok (.getfield 139, 3) := by decide +kernel
theorem dX13_readPersonDoes_67 : decode cX13_readPersonDoes 67 = .ok (.iload_n 1, 1) := by decide +kernel
theorem dX13_readPersonDoes_68 : decode cX13_readPersonDoes 68 = .ok (.iconst 2, 1) := by decide +kernel
theorem dX13_readPersonDoes_69 : decode cX13_readPersonDoes 69 = .ok (.iadd, 1) := by decide +kernel
theorem dX13_readPersonDoes_70 : decode cX13_readPersonDoes 70 = .ok (.iconst 0, 1) := by decide +kernel
theorem dX13_readPersonDoes_71 : decode cX13_readPersonDoes 71 = .ok (.iastore, 1) := by decide +kernel
theorem dX13_readPersonDoes_72 : decode cX13_readPersonDoes 72 = .ok (.aload_n 0, 1) := by decide +kernel
theorem dX13_readPersonDoes_73 : decode cX13_readPersonDoes 73 = .ok (.invokevirtual 82, 3) := by decide +kernel
theorem dX13_readPersonDoes_76 : decode cX13_readPersonDoes 76 = .ok (.iconst 1, 1) := by decide +kernel
theorem dX13_readPersonDoes_77 : decode cX13_readPersonDoes 77 = .ok (.ireturn, 1) := by decide +kernel
theorem dX13_readGlassDoes_0 : decode cX13_readGlassDoes 0 = .ok (.aload_n 0, 1) := by decide +kernel
theorem dX13_readGlassDoes_1 : decode cX13_readGlassDoes 1 = .ok (.bipush 13, 2) := by decide +kernel
theorem dX13_readGlassDoes_3 : decode cX13_readGlassDoes 3 = .ok (.invokevirtual 191, 3) := by decide +kernel
theorem dX13_readGlassDoes_6 : decode cX13_readGlassDoes 6 = .ok (.ifCond .eq 12, 3) := by decide +kernel
theorem dX13_readGlassDoes_9 : decode cX13_readGlassDoes 9 = .ok (.aload_n 0, 1) := by decide +kernel
theorem dX13_readGlassDoes_10 : decode cX13_readGlassDoes 10 = .ok (.iload_n 1, 1) := by decide +kernel
theorem dX13_readGlassDoes_11 : decode cX13_readGlassDoes 11 = .ok (.iconst 3, 1) := by decide +kernel
theorem dX13_readGlassDoes_12 : decode cX13_readGlassDoes 12 = .ok (.iconst 0, 1) := by decide +kernel
theorem dX13_readGlassDoes_13 : decode cX13_readGlassDoes 13 = .ok (.iconst 2, 1) := by decide +kernel
theorem dX13_readGlassDoes_14 : decode cX13_readGlassDoes 14 = .ok (.invokevirtual 387, 3) := by decide +kernel
theorem dX13_readGlassDoes_17 : decode cX13_readGlassDoes 17 = .ok (.ireturn, 1) := by decide +kernel
theorem dX13_readGlassDoes_18 : decode cX13_readGlassDoes 18 = .ok (.aload_n 0, 1) := by decide +kernel
theorem dX13_readGlassDoes_19 : decode cX13_readGlassDoes 19 = .ok (.bipush 14, 2) := by decide +kernel
theorem dX13_readGlassDoes_21 : decode cX13_readGlassDoes 21 = .ok (.invokevirtual 191, 3) := by decide +kernel
theorem dX13_readGlassDoes_24 : decode cX13_readGlassDoes 24 = .ok (.ifCond .eq 13, 3) := by decide +kernel
theorem dX13_readGlassDoes_27 : decode cX13_readGlassDoes 27 = .ok (.aload_n 0, 1) := by decide +kernel
theorem dX13_readGlassDoes_28 : decode cX13_readGlassDoes 28 = .ok (.iload_n 1, 1) := by decide +kernel
theorem dX13_readGlassDoes_29 : decode cX13_readGlassDoes 29 = .ok (.iconst 4, 1) := by decide +kernel
theorem dX13_readGlassDoes_30 : decode cX13_readGlassDoes 30 = .ok (.iconst 1, 1) := by decide +kernel
theorem dX13_readGlassDoes_31 : decode cX13_readGlassDoes 31 = .ok (.bipush 8, 2) := by decide +kernel
theorem dX13_readGlassDoes_33 : decode cX13_readGlassDoes 33 = .ok (.invokevirtual 387, 3) := by decide +kernel
theorem dX13_readGlassDoes_36 : decode cX13_readGlassDoes 36 = .ok (.ireturn, 1) := by decide +kernel
theorem dX13_readGlassDoes_37 : decode cX13_readGlassDoes 37 = .ok (.aload_n 0, 1) := by decide +kernel
theorem dX13_readGlassDoes_38 : decode cX13_readGlassDoes 38 = .ok (.bipush 15, 2) := by decide +kernel
theorem dX13_readGlassDoes_40 : decode cX13_readGlassDoes 40 = .ok (.invokevirtual 191, 3) := by decide +kernel
theorem dX13_readGlassDoes_43 : decode cX13_readGlassDoes 43 = .ok (.ifCond .eq 16, 3) := by decide +kernel
theorem dX13_readGlassDoes_46 : decode cX13_readGlassDoes 46 = .ok (.aload_n 0, 1) := by decide +kernel
theorem dX13_readGlassDoes_47 : decode cX13_readGlassDoes 47 = .ok (.iload_n 1, 1) := by decide +kernel
theorem dX13_readGlassDoes_48 : decode cX13_readGlassDoes 48 = .ok (.iconst 5, 1) := by decide +kernel
theorem dX13_readGlassDoes_49 : decode cX13_readGlassDoes 49 = .ok (.iconst 1, 1) := by decide +kernel
theorem dX13_readGlassDoes_50 : decode cX13_readGlassDoes 50 = .ok (.sipush 250, 3) := by decide +kernel
theorem dX13_readGlassDoes_53 : decode cX13_readGlassDoes 53 = .ok (.invokevirtual 387, 3) := by decide +kernel
theorem dX13_readGlassDoes_56 : decode cX13_readGlassDoes 56 = .ok (.goto 8, 3) := by decide +kernel
theorem dX13_readGlassDoes_59 : decode cX13_readGlassDoes 59 = .ok (.aload_n 0, 1) := by decide +kernel
theorem dX13_readGlassDoes_60 : decode cX13_readGlassDoes 60 = .ok (.iconst 1, 1) := by decide +kernel
theorem dX13_readGlassDoes_61 : decode cX13_readGlassDoes 61 = .ok (.invokevirtual 72, 3) := by decide +kernel
theorem dX13_readGlassDoes_64 : decode cX13_readGlassDoes 64 = .ok (.ireturn, 1) := by decide +kernel
theorem dX13_readRollLine_0 : decode cX13_readRollLine 0 = .ok (.aload_n 0, 1) := by decide +kernel
theorem dX13_readRollLine_1 : decode cX13_readRollLine 1 = .ok (.bipush 16, 2) := by decide +kernel
theorem dX13_readRollLine_3 : decode cX13_readRollLine 3 = .ok (.invokevirtual 191, 3) := by decide +kernel
theorem dX13_readRollLine_6 : decode cX13_readRollLine 6 = .ok (.istore_n 1, 1) := by decide +kernel
theorem dX13_readRollLine_7 : decode cX13_readRollLine 7 = .ok (.iload_n 1, 1) := by decide +kernel
theorem dX13_readRollLine_8 : decode cX13_readRollLine 8 = .ok (.ifCond .ne 16, 3) := by decide +kernel
theorem dX13_readRollLine_11 : decode cX13_readRollLine 11 = .ok (.aload_n 0, 1) := by decide +kernel
theorem dX13_readRollLine_12 : decode cX13_readRollLine 12 = .ok (.invokevirtual 154, 3) := by decide +kernel
theorem dX13_readRollLine_15 : decode cX13_readRollLine 15 = .ok (.ifCond .ne 9, 3) := by decide +kernel
theorem dX13_readRollLine_18 : decode cX13_readRollLine 18 = .ok (.aload_n 0, 1) := by decide +kernel
theorem dX13_readRollLine_19 : decode cX13_readRollLine 19 = .ok (.iconst 1, 1) := by decide +kernel
theorem dX13_readRollLine_20 : decode cX13_readRollLine 20 = .ok (.invokevirtual 72, 3) := by decide +kernel
theorem dX13_readRollLine_23 : decode cX13_readRollLine 23 = .ok (.ireturn, 1) := by decide +kernel
theorem dX13_readRollLine_24 : decode cX13_readRollLine 24 = .ok (.iload_n 1, 1) := by decide +kernel
theorem dX13_readRollLine_25 : decode cX13_readRollLine 25 = .ok (.ifCond .eq 7, 3) := by decide +kernel
theorem dX13_readRollLine_28 : decode cX13_readRollLine 28 = .ok (.iconst (-1), 1) := by decide +kernel
theorem dX13_readRollLine_29 : decode cX13_readRollLine 29 = .ok (.goto 21, 3) := by decide +kernel
theorem dX13_readRollLine_32 : decode cX13_readRollLine 32 = .ok (.aload_n 0, 1) := by decide +kernel
theorem dX13_readRollLine_33 : decode cX13_readRollLine 33 = .ok (.getfield 113, 3) := by decide +kernel
theorem dX13_readRollLine_36 : decode cX13_readRollLine 36 = .ok (.iconst 0, 1) := by decide +kernel
theorem dX13_readRollLine_37 : decode cX13_readRollLine 37 = .ok (.aload_n 0, 1) := by decide +kernel
theorem dX13_readRollLine_38 : decode cX13_readRollLine 38 = .ok (.getfield 98, 3) := by decide +kernel
theorem dX13_readRollLine_41 : decode cX13_readRollLine 41 = .ok (.iconst 0, 1) := by decide +kernel
theorem dX13_readRollLine_42 : decode cX13_readRollLine 42 = .ok (.iaload, 1) := by decide +kernel
theorem dX13_readRollLine_43 : decode cX13_readRollLine 43 = .ok (.aload_n 0, 1) := by decide +kernel
theorem dX13_readRollLine_44 : decode cX13_readRollLine 44 = .ok (.getfield 43, 3) := by decide +kernel
theorem dX13_readRollLine_47 : decode cX13_readRollLine 47 = .ok (.invokestatic 158, 3) := by decide +kernel
theorem dX13_readRollLine_50 : decode cX13_readRollLine 50 = .ok (.istore_n 2, 1) := by decide +kernel
theorem dX13_readRollLine_51 : decode cX13_readRollLine 51 = .ok (.iload_n 1, 1) := by decide +kernel
theorem dX13_readRollLine_52 : decode cX13_readRollLine 52 = .ok (.ifCond .eq 7, 3) := by decide +kernel
theorem dX13_readRollLine_55 : decode cX13_readRollLine 55 = .ok (.iconst (-1), 1) := by decide +kernel
theorem dX13_readRollLine_56 : decode cX13_readRollLine 56 = .ok (.goto 22, 3) := by decide +kernel
theorem dX13_readRollLine_59 : decode cX13_readRollLine 59 = .ok (.aload_n 0, 1) := by decide +kernel
theorem dX13_readRollLine_60 : decode cX13_readRollLine 60 = .ok (.getfield 113, 3) := by decide +kernel
theorem dX13_readRollLine_63 : decode cX13_readRollLine 63 = .ok (.bipush 8, 2) := by decide +kernel
theorem dX13_readRollLine_65 : decode cX13_readRollLine 65 = .ok (.aload_n 0, 1) := by decide +kernel
theorem dX13_readRollLine_66 : decode cX13_readRollLine 66 = .ok (.getfield 98, 3) := by decide +kernel
theorem dX13_readRollLine_69 : decode cX13_readRollLine 69 = .ok (.iconst 1, 1) := by decide +kernel
theorem dX13_readRollLine_70 : decode cX13_readRollLine 70 = .ok (.iaload, 1) := by decide +kernel
theorem dX13_readRollLine_71 : decode cX13_readRollLine 71 = .ok (.aload_n 0, 1) := by decide +kernel
theorem dX13_readRollLine_72 : decode cX13_readRollLine 72 = .ok (.getfield 43, 3) := by decide +kernel
theorem dX13_readRollLine_75 : decode cX13_readRollLine 75 = .ok (.invokestatic 158, 3) := by decide +kernel
theorem dX13_readRollLine_78 : decode cX13_readRollLine 78 = .ok (.istore_n 3, 1) := by decide +kernel
theorem dX13_readRollLine_79 : decode cX13_readRollLine 79 = .ok (.iload_n 1, 1) := by decide +kernel
theorem dX13_readRollLine_80 : decode cX13_readRollLine 80 = .ok (.ifCond .ne 19, 3) := by decide +kernel
theorem dX13_readRollLine_83 : decode cX13_readRollLine 83 = .ok (.iload_n 2, 1) := by decide +kernel
theorem dX13_readRollLine_84 : decode cX13_readRollLine 84 = .ok (.iconst (-1), 1) := by decide +kernel
theorem dX13_readRollLine_85 : decode cX13_readRollLine 85 = .ok (.if_icmp .ne 14, 3) := by decide +kernel
theorem dX13_readRollLine_88 : decode cX13_readRollLine 88 = .ok (.iload_n 3, 1) := by decide +kernel
theorem dX13_readRollLine_89 : decode cX13_readRollLine 89 = .ok (.iconst (-1), 1) := by decide +kernel
theorem dX13_readRollLine_90 : decode cX13_readRollLine 90 = .ok (.if_icmp .ne 9, 3) := by decide +kernel
theorem dX13_readRollLine_93 : decode cX13_readRollLine 93 = .ok (.aload_n 0, 1) := by decide +kernel
theorem dX13_readRollLine_94 : decode cX13_readRollLine 94 = .ok (.iconst 3, 1) := by decide +kernel
theorem dX13_readRollLine_95 : decode cX13_readRollLine 95 = .ok (.invokevirtual 72, 3) := by decide +kernel
theorem dX13_readRollLine_98 : decode cX13_readRollLine 98 = .ok (.ireturn, 1) := by decide +kernel
theorem dX13_readRollLine_99 : decode cX13_readRollLine 99 = .ok (.aload_n 0, 1) := by decide +kernel
theorem dX13_readRollLine_100 : decode cX13_readRollLine 100 = .ok (.getfield 391, 3) := by decide +kernel
theorem dX13_readRollLine_103 : decode cX13_readRollLine 103 = .ok (.bipush 40, 2) := by decide +kernel
theorem dX13_readRollLine_105 : decode cX13_readRollLine 105 = .ok (.if_icmp .ne 9, 3) := by decide +kernel
theorem dX13_readRollLine_108 : decode cX13_readRollLine 108 = .ok (.aload_n 0, 1) := by decide +kernel
theorem dX13_readRollLine_109 : decode cX13_readRollLine 109 = .ok (.iconst 4, 1) := by decide +kernel
theorem dX13_readRollLine_110 : decode cX13_readRollLine 110 = .ok (.invokevirtual 72, 3) := by decide +kernel
theorem dX13_readRollLine_113 : decode cX13_readRollLine 113 = .ok (.ireturn, 1) := by decide +kernel
theorem dX13_readRollLine_114 : decode cX13_readRollLine 114 = .ok (.iconst 3, 1) := by decide +kernel
theorem dX13_readRollLine_115 : decode cX13_readRollLine 115 = .ok (.aload_n 0, 1) := by decide +kernel
theorem dX13_readRollLine_116 : decode cX13_readRollLine 116 = .ok (.getfield 391, 3) := by decide +kernel
theorem dX13_readRollLine_119 : decode cX13_readRollLine 119 = .ok (.imul, 1) := by decide +kernel
theorem dX13_readRollLine_120 : decode cX13_readRollLine 120 = .ok (.istore 4, 2) := by decide +kernel
theorem dX13_readRollLine_122 : decode cX13_readRollLine 122 = .ok (.iload_n 1, 1) := by decide +kernel
theorem dX13_readRollLine_123 : decode cX13_readRollLine 123 = .ok (.ifCond .eq 30, 3) := by decide +kernel
theorem dX13_readRollLine_126 : decode cX13_readRollLine 126 = .ok (.aload_n 0, 1) := by decide +kernel
theorem dX13_readRollLine_127 : decode cX13_readRollLine 127 = .ok (.iload 4, 2) := by decide +kernel
theorem dX13_readRollLine_129 : decode cX13_readRollLine 129 = .ok (.bipush 6, 2) := by decide +kernel
theorem dX13_readRollLine_131 : decode cX13_readRollLine 131 = .ok (.iconst 1, 1) := by decide +kernel
theorem dX13_readRollLine_132 : decode cX13_readRollLine 132 = .ok (.bipush 60, 2) := by decide +kernel
theorem dX13_readRollLine_134 : decode cX13_readRollLine 134 = .ok (.invokevirtual 387, 3) := by decide +kernel
theorem dX13_readRollLine_137 : decode cX13_readRollLine 137 = .ok (.ifCond .eq 14, 3) := by decide +kernel
theorem dX13_readRollLine_140 : decode cX13_readRollLine 140 = .ok (.aload_n 0, 1) := by decide +kernel
theorem dX13_readRollLine_141 : decode cX13_readRollLine 141 = .ok (.invokevirtual 218, 3) := by decide +kernel
theorem dX13_readRollLine_144 : decode cX13_readRollLine 144 = .ok (.ifCond .eq 7, 3) := by decide +kernel
theorem dX13_readRollLine_147 : decode cX13_readRollLine 147 = .ok (.iconst 1, 1) := by decide +kernel
theorem dX13_readRollLine_148 : decode cX13_readRollLine 148 = .ok (.goto 4, 3) := by decide +kernel
theorem dX13_readRollLine_151 : decode cX13_readRollLine 151 = .ok (.iconst 0, 1) := by decide +kernel
theorem dX13_readRollLine_152 : decode cX13_readRollLine 152 = .ok (.ireturn, 1) := by decide +kernel
theorem dX13_readRollLine_153 : decode cX13_readRollLine 153 = .ok (.aload_n 0, 1) := by decide +kernel
theorem dX13_readRollLine_154 : decode cX13_readRollLine 154 = .ok (.invokevirtual 82, 3) := by decide +kernel
theorem dX13_readRollLine_157 : decode cX13_readRollLine 157 = .ok (.aload_n 0, 1) := by decide +kernel
theorem dX13_readRollLine_158 : decode cX13_readRollLine 158 = .ok (.getfield 139, 3) := by decide +kernel
theorem dX13_readRollLine_161 : decode cX13_readRollLine 161 = .ok (.iload 4, 2) := by decide +kernel
theorem dX13_readRollLine_163 : decode cX13_readRollLine 163 = .ok (.iconst 1, 1) := by decide +kernel
theorem dX13_readRollLine_164 : decode cX13_readRollLine 164 = .ok (.iadd, 1) := by decide +kernel
theorem dX13_readRollLine_165 : decode cX13_readRollLine 165 = .ok (.iload_n 2, 1) := by decide +kernel
theorem dX13_readRollLine_166 : decode cX13_readRollLine 166 = .ok (.iconst (-1), 1) := by decide +kernel
theorem dX13_readRollLine_167 : decode cX13_readRollLine 167 = .ok (.if_icmp .ne 7, 3) := by decide +kernel
theorem dX13_readRollLine_170 : decode cX13_readRollLine 170 = .ok (.iload_n 3, 1) := by decide +kernel
theorem dX13_readRollLine_171 : decode cX13_readRollLine 171 = .ok (.goto 4, 3) := by decide +kernel
theorem dX13_readRollLine_174 : decode cX13_readRollLine 174 = .ok (.iload_n 2, 1) := by decide +kernel
theorem dX13_readRollLine_175 : decode cX13_readRollLine 175 = .ok (.iastore, 1) := by decide +kernel
theorem dX13_readRollLine_176 : decode cX13_readRollLine 176 = .ok (.iload_n 2, 1) := by decide +kernel
theorem dX13_readRollLine_177 : decode cX13_readRollLine 177 = .ok (.iconst (-1), 1) := by decide +kernel
theorem dX13_readRollLine_178 : decode cX13_readRollLine 178 = .ok (.if_icmp .ne 15, 3) := by decide +kernel
theorem dX13_readRollLine_181 : decode cX13_readRollLine 181 = .ok (.aload_n 0, 1) := by decide +kernel
theorem dX13_readRollLine_182 : decode cX13_readRollLine 182 = .ok (.iload 4, 2) := by decide +kernel
theorem dX13_readRollLine_184 : decode cX13_readRollLine 184 = .ok (.invokevirtual 394, 3) := by decide +kernel
theorem dX13_readRollLine_187 : decode cX13_readRollLine 187 = .ok (.ifCond .eq 26, 3) := by decide +kernel
theorem dX13_readRollLine_190 : decode cX13_readRollLine 190 = .ok (.goto 12, 3) := by decide +kernel
theorem dX13_readRollLine_193 : decode cX13_readRollLine 193 = .ok (.aload_n 0, 1) := by decide +kernel
theorem dX13_readRollLine_194 : decode cX13_readRollLine 194 = .ok (.iload 4, 2) := by decide +kernel
theorem dX13_readRollLine_196 : decode cX13_readRollLine 196 = .ok (.invokevirtual 397, 3) := by decide +kernel
theorem dX13_readRollLine_199 : decode cX13_readRollLine 199 = .ok (.ifCond .eq 14, 3) := by decide +kernel
theorem dX13_readRollLine_202 : decode cX13_readRollLine 202 = .ok (.aload_n 0, 1) := by decide +kernel
theorem dX13_readRollLine_203 : decode cX13_readRollLine 203 = .ok (.invokevirtual 218, 3) := by decide +kernel
theorem dX13_readRollLine_206 : decode cX13_readRollLine 206 = .ok (.ifCond .eq 7, 3) := by decide +kernel
theorem dX13_readRollLine_209 : decode cX13_readRollLine 209 = .ok (.iconst 1, 1) := by decide +kernel
theorem dX13_readRollLine_210 : decode cX13_readRollLine 210 = .ok (.goto 4, 3) := by decide +kernel
theorem dX13_readRollLine_213 : decode cX13_readRollLine 213 = .ok (.iconst 0, 1) := by decide +kernel
theorem dX13_readRollLine_214 : decode cX13_readRollLine 214 = .ok (.ireturn, 1) := by decide +kernel
theorem dX13_goBy_0 : decode cX13_goBy 0 = .ok (.aload_n 0, 1) := by decide +kernel
theorem dX13_goBy_1 : decode cX13_goBy 1 = .ok (.getfield 139, 3) := by decide +kernel
theorem dX13_goBy_4 : decode cX13_goBy 4 = .ok (.iload_n 1, 1) := by decide +kernel
theorem dX13_goBy_5 : decode cX13_goBy 5 = .ok (.iaload, 1) := by decide +kernel
theorem dX13_goBy_6 : decode cX13_goBy 6 = .ok (.istore_n 2, 1) := by decide +kernel
theorem dX13_goBy_7 : decode cX13_goBy 7 = .ok (.aload_n 0, 1) := by decide +kernel
theorem dX13_goBy_8 : decode cX13_goBy 8 = .ok (.getfield 139, 3) := by decide +kernel
theorem dX13_goBy_11 : decode cX13_goBy 11 = .ok (.iload_n 1, 1) := by decide +kernel
theorem dX13_goBy_12 : decode cX13_goBy 12 = .ok (.iconst 2, 1) := by decide +kernel
theorem dX13_goBy_13 : decode cX13_goBy 13 = .ok (.iadd, 1) := by decide +kernel
theorem dX13_goBy_14 : decode cX13_goBy 14 = .ok (.iaload, 1) := by decide +kernel
theorem dX13_goBy_15 : decode cX13_goBy 15 = .ok (.istore_n 3, 1) := by decide +kernel
theorem dX13_goBy_16 : decode cX13_goBy 16 = .ok (.iload_n 2, 1) := by decide +kernel
theorem dX13_goBy_17 : decode cX13_goBy 17 = .ok (.bipush 6, 2) := by decide +kernel
theorem dX13_goBy_19 : decode cX13_goBy 19 = .ok (.if_icmp .ne 29, 3) := by decide +kernel
theorem dX13_goBy_22 : decode cX13_goBy 22 = .ok (.aload_n 0, 1) := by decide +kernel
theorem dX13_goBy_23 : decode cX13_goBy 23 = .ok (.getfield 98, 3) := by decide +kernel
theorem dX13_goBy_26 : decode cX13_goBy 26 = .ok (.bipush 102, 2) := by decide +kernel
theorem dX13_goBy_28 : decode cX13_goBy 28 = .ok (.iaload, 1) := by decide +kernel
theorem dX13_goBy_29 : decode cX13_goBy 29 = .ok (.iload_n 3, 1) := by decide +kernel
theorem dX13_goBy_30 : decode cX13_goBy 30 = .ok (.iadd, 1) := by decide +kernel
theorem dX13_goBy_31 : decode cX13_goBy 31 = .ok (.sipush 600, 3) := by decide +kernel
theorem dX13_goBy_34 : decode cX13_goBy 34 = .ok (.if_icmp .le 6, 3) := by decide +kernel
theorem dX13_goBy_37 : decode cX13_goBy 37 = .ok (.bipush 61, 2) := by decide +kernel
theorem dX13_goBy_39 : decode cX13_goBy 39 = .ok (.ireturn, 1) := by decide +kernel
theorem dX13_goBy_40 : decode cX13_goBy 40 = .ok (.aload_n 0, 1) := by decide +kernel
theorem dX13_goBy_41 : decode cX13_goBy 41 = .ok (.iload_n 3, 1) := by decide +kernel
theorem dX13_goBy_42 : decode cX13_goBy 42 = .ok (.invokevirtual 309, 3) := by decide +kernel
theorem dX13_goBy_45 : decode cX13_goBy 45 = .ok (.pop, 1) := by decide +kernel
theorem dX13_goBy_46 : decode cX13_goBy 46 = .ok (.iconst 0, 1) := by decide +kernel
theorem dX13_goBy_47 : decode cX13_goBy 47 = .ok (.ireturn, 1) := by decide +kernel
theorem dX13_goBy_48 : decode cX13_goBy 48 = .ok (.aload_n 0, 1) := by decide +kernel
theorem dX13_goBy_49 : decode cX13_goBy 49 = .ok (.iload_n 2, 1) := by decide +kernel
theorem dX13_goBy_50 : decode cX13_goBy 50 = .ok (.aload_n 0, 1) := by decide +kernel
theorem dX13_goBy_51 : decode cX13_goBy 51 = .ok (.getfield 139, 3) := by decide +kernel
theorem dX13_goBy_54 : decode cX13_goBy 54 = .ok (.iload_n 1, 1) := by decide +kernel
theorem dX13_goBy_55 : decode cX13_goBy 55 = .ok (.iconst 1, 1) := by decide +kernel
theorem dX13_goBy_56 : decode cX13_goBy 56 = .ok (.iadd, 1) := by decide +kernel
theorem dX13_goBy_57 : decode cX13_goBy 57 = .ok (.iaload, 1) := by decide +kernel
theorem dX13_goBy_58 : decode cX13_goBy 58 = .ok (.iload_n 3, 1) := by decide +kernel
theorem dX13_goBy_59 : decode cX13_goBy 59 = .ok (.invokevirtual 289, 3) := by decide +kernel
theorem dX13_goBy_62 : decode cX13_goBy 62 = .ok (.istore 4, 2) := by decide +kernel
theorem dX13_goBy_64 : decode cX13_goBy 64 = .ok (.iload 4, 2) := by decide +kernel
theorem dX13_goBy_66 : decode cX13_goBy 66 = .ok (.ifCond .eq 11, 3) := by decide +kernel
theorem dX13_goBy_69 : decode cX13_goBy 69 = .ok (.bipush 10, 2) := by decide +kernel
theorem dX13_goBy_71 : decode cX13_goBy 71 = .ok (.iload_n 2, 1) := by decide +kernel
theorem dX13_goBy_72 : decode cX13_goBy 72 = .ok (.imul, 1) := by decide +kernel
theorem dX13_goBy_73 : decode cX13_goBy 73 = .ok (.iload 4, 2) := by decide +kernel
theorem dX13_goBy_75 : decode cX13_goBy 75 = .ok (.iadd, 1) := by decide +kernel
theorem dX13_goBy_76 : decode cX13_goBy 76 = .ok (.ireturn, 1) := by decide +kernel
theorem dX13_goBy_77 : decode cX13_goBy 77 = .ok (.aload_n 0, 1) := by decide +kernel
theorem dX13_goBy_78 : decode cX13_goBy 78 = .ok (.iload_n 2, 1) := by decide +kernel
theorem dX13_goBy_79 : decode cX13_goBy 79 = .ok (.aload_n 0, 1) := by decide +kernel
theorem dX13_goBy_80 : decode cX13_goBy 80 = .ok (.getfield 139, 3) := by decide +kernel
theorem dX13_goBy_83 : decode cX13_goBy 83 = .ok (.iload_n 1, 1) := by decide +kernel
theorem dX13_goBy_84 : decode cX13_goBy 84 = .ok (.iconst 1, 1) := by decide +kernel
theorem dX13_goBy_85 : decode cX13_goBy 85 = .ok (.iadd, 1) := by decide +kernel
theorem dX13_goBy_86 : decode cX13_goBy 86 = .ok (.iaload, 1) := by decide +kernel
theorem dX13_goBy_87 : decode cX13_goBy 87 = .ok (.iload_n 3, 1) := by decide +kernel
theorem dX13_goBy_88 : decode cX13_goBy 88 = .ok (.invokevirtual 296, 3) := by decide +kernel
theorem dX13_goBy_91 : decode cX13_goBy 91 = .ok (.iconst 0, 1) := by decide +kernel
theorem dX13_goBy_92 : decode cX13_goBy 92 = .ok (.ireturn, 1) := by decide +kernel
theorem dX13_roll_0 : decode cX13_roll 0 = .ok (.aload_n 0, 1) := by decide +kernel
theorem dX13_roll_1 : decode cX13_roll 1 = .ok (.iconst 0, 1) := by decide +kernel
theorem dX13_roll_2 : decode cX13_roll 2 = .ok (.putfield 1, 3) := by decide +kernel
theorem dX13_roll_5 : decode cX13_roll 5 = .ok (.iload_n 1, 1) := by decide +kernel
theorem dX13_roll_6 : decode cX13_roll 6 = .ok (.iconst 0, 1) := by decide +kernel
theorem dX13_roll_7 : decode cX13_roll 7 = .ok (.iconst 1, 1) := by decide +kernel
theorem dX13_roll_8 : decode cX13_roll 8 = .ok (.invokestatic 75, 3) := by decide +kernel
theorem dX13_roll_11 : decode cX13_roll 11 = .ok (.ifCond .ne 7, 3) := by decide +kernel
theorem dX13_roll_14 : decode cX13_roll 14 = .ok (.sipush (-1000), 3) := by decide +kernel
theorem dX13_roll_17 : decode cX13_roll 17 = .ok (.ireturn, 1) := by decide +kernel
theorem dX13_roll_18 : decode cX13_roll 18 = .ok (.aload_n 0, 1) := by decide +kernel
theorem dX13_roll_19 : decode cX13_roll 19 = .ok (.sipush 400, 3) := by decide +kernel
theorem dX13_roll_22 : decode cX13_roll 22 = .ok (.invokevirtual 212, 3) := by decide +kernel
theorem dX13_roll_25 : decode cX13_roll 25 = .ok (.aload_n 0, 1) := by decide +kernel
theorem dX13_roll_26 : decode cX13_roll 26 = .ok (.iconst 0, 1) := by decide +kernel
theorem dX13_roll_27 : decode cX13_roll 27 = .ok (.putfield 391, 3) := by decide +kernel
theorem dX13_roll_30 : decode cX13_roll 30 = .ok (.aload_n 0, 1) := by decide +kernel
theorem dX13_roll_31 : decode cX13_roll 31 = .ok (.getfield 30, 3) := by decide +kernel
theorem dX13_roll_34 : decode cX13_roll 34 = .ok (.ifCond .eq 31, 3) := by decide +kernel
theorem dX13_roll_37 : decode cX13_roll 37 = .ok (.aload_n 0, 1) := by decide +kernel
theorem dX13_roll_38 : decode cX13_roll 38 = .ok (.invokevirtual 400, 3) := by decide +kernel
theorem dX13_roll_41 : decode cX13_roll 41 = .ok (.ifCond .ne 11, 3) := by decide +kernel
theorem dX13_roll_44 : decode cX13_roll 44 = .ok (.bipush (-2), 2) := by decide +kernel
theorem dX13_roll_46 : decode cX13_roll 46 = .ok (.aload_n 0, 1) := by decide +kernel
theorem dX13_roll_47 : decode cX13_roll 47 = .ok (.getfield 69, 3) := by decide +kernel
theorem dX13_roll_50 : decode cX13_roll 50 = .ok (.isub, 1) := by decide +kernel
theorem dX13_roll_51 : decode cX13_roll 51 = .ok (.ireturn, 1) := by decide +kernel
theorem dX13_roll_52 : decode cX13_roll 52 = .ok (.aload_n 0, 1) := by decide +kernel
theorem dX13_roll_53 : decode cX13_roll 53 = .ok (.dup, 1) := by decide +kernel
theorem dX13_roll_54 : decode cX13_roll 54 = .ok (.getfield 391, 3) := by decide +kernel
theorem dX13_roll_57 : decode cX13_roll 57 = .ok (.iconst 1, 1) := by decide +kernel
theorem dX13_roll_58 : decode cX13_roll 58 = .ok (.iadd, 1) := by decide +kernel
theorem dX13_roll_59 : decode cX13_roll 59 = .ok (.putfield 391, 3) := by decide +kernel
theorem dX13_roll_62 : decode cX13_roll 62 = .ok (.goto (-32), 3) := by decide +kernel
theorem dX13_roll_65 : decode cX13_roll 65 = .ok (.aload_n 0, 1) := by decide +kernel
theorem dX13_roll_66 : decode cX13_roll 66 = .ok (.invokevirtual 318, 3) := by decide +kernel
theorem dX13_roll_69 : decode cX13_roll 69 = .ok (.iconst 0, 1) := by decide +kernel
theorem dX13_roll_70 : decode cX13_roll 70 = .ok (.istore_n 2, 1) := by decide +kernel
theorem dX13_roll_71 : decode cX13_roll 71 = .ok (.iconst 0, 1) := by decide +kernel
theorem dX13_roll_72 : decode cX13_roll 72 = .ok (.istore_n 3, 1) := by decide +kernel
theorem dX13_roll_73 : decode cX13_roll 73 = .ok (.iload_n 2, 1) := by decide +kernel
theorem dX13_roll_74 : decode cX13_roll 74 = .ok (.aload_n 0, 1) := by decide +kernel
theorem dX13_roll_75 : decode cX13_roll 75 = .ok (.getfield 391, 3) := by decide +kernel
theorem dX13_roll_78 : decode cX13_roll 78 = .ok (.if_icmp .ge 25, 3) := by decide +kernel
theorem dX13_roll_81 : decode cX13_roll 81 = .ok (.iload_n 3, 1) := by decide +kernel
theorem dX13_roll_82 : decode cX13_roll 82 = .ok (.ifCond .ne 21, 3) := by decide +kernel
theorem dX13_roll_85 : decode cX13_roll 85 = .ok (.aload_n 0, 1) := by decide +kernel
theorem dX13_roll_86 : decode cX13_roll 86 = .ok (.iconst 3, 1) := by decide +kernel
theorem dX13_roll_87 : decode cX13_roll 87 = .ok (.iload_n 2, 1) := by decide +kernel
theorem dX13_roll_88 : decode cX13_roll 88 = .ok (.imul, 1) := by decide +kernel
theorem dX13_roll_89 : decode cX13_roll 89 = .ok (.invokevirtual 403, 3) := by decide +kernel
theorem dX13_roll_92 : decode cX13_roll 92 = .ok (.istore_n 3, 1) := by decide +kernel
theorem dX13_roll_93 : decode cX13_roll 93 = .ok (.iload_n 3, 1) := by decide +kernel
theorem dX13_roll_94 : decode cX13_roll 94 = .ok (.ifCond .ne (-21), 3) := by decide +kernel
theorem dX13_roll_97 : decode cX13_roll 97 = .ok (.iinc 2 1, 3) := by decide +kernel
theorem dX13_roll_100 : decode cX13_roll 100 = .ok (.goto (-27), 3) := by decide +kernel
theorem dX13_roll_103 : decode cX13_roll 103 = .ok (.aload_n 0, 1) := by decide +kernel
theorem dX13_roll_104 : decode cX13_roll 104 = .ok (.getfield 142, 3) := by decide +kernel
theorem dX13_roll_107 : decode cX13_roll 107 = .ok (.iconst 0, 1) := by decide +kernel
theorem dX13_roll_108 : decode cX13_roll 108 = .ok (.iload_n 3, 1) := by decide +kernel
theorem dX13_roll_109 : decode cX13_roll 109 = .ok (.iastore, 1) := by decide +kernel
theorem dX13_roll_110 : decode cX13_roll 110 = .ok (.aload_n 0, 1) := by decide +kernel
theorem dX13_roll_111 : decode cX13_roll 111 = .ok (.getfield 142, 3) := by decide +kernel
theorem dX13_roll_114 : decode cX13_roll 114 = .ok (.iconst 1, 1) := by decide +kernel
theorem dX13_roll_115 : decode cX13_roll 115 = .ok (.iload_n 2, 1) := by decide +kernel
theorem dX13_roll_116 : decode cX13_roll 116 = .ok (.iastore, 1) := by decide +kernel
theorem dX13_roll_117 : decode cX13_roll 117 = .ok (.aload_n 0, 1) := by decide +kernel
theorem dX13_roll_118 : decode cX13_roll 118 = .ok (.getfield 142, 3) := by decide +kernel
theorem dX13_roll_121 : decode cX13_roll 121 = .ok (.iconst 2, 1) := by decide +kernel
theorem dX13_roll_122 : decode cX13_roll 122 = .ok (.aload_n 0, 1) := by decide +kernel
theorem dX13_roll_123 : decode cX13_roll 123 = .ok (.getfield 98, 3) := by decide +kernel
theorem dX13_roll_126 : decode cX13_roll 126 = .ok (.bipush 102, 2) := by decide +kernel
theorem dX13_roll_128 : decode cX13_roll 128 = .ok (.iaload, 1) := by decide +kernel
theorem dX13_roll_129 : decode cX13_roll 129 = .ok (.iastore, 1) := by decide +kernel
theorem dX13_roll_130 : decode cX13_roll 130 = .ok (.aload_n 0, 1) := by decide +kernel
theorem dX13_roll_131 : decode cX13_roll 131 = .ok (.getfield 142, 3) := by decide +kernel
theorem dX13_roll_134 : decode cX13_roll 134 = .ok (.iconst 3, 1) := by decide +kernel
theorem dX13_roll_135 : decode cX13_roll 135 = .ok (.aload_n 0, 1) := by decide +kernel
theorem dX13_roll_136 : decode cX13_roll 136 = .ok (.getfield 98, 3) := by decide +kernel
theorem dX13_roll_139 : decode cX13_roll 139 = .ok (.bipush 104, 2) := by decide +kernel
theorem dX13_roll_141 : decode cX13_roll 141 = .ok (.iaload, 1) := by decide +kernel
theorem dX13_roll_142 : decode cX13_roll 142 = .ok (.iastore, 1) := by decide +kernel
theorem dX13_roll_143 : decode cX13_roll 143 = .ok (.aload_n 0, 1) := by decide +kernel
theorem dX13_roll_144 : decode cX13_roll 144 = .ok (.iconst 1, 1) := by decide +kernel
theorem dX13_roll_145 : decode cX13_roll 145 = .ok (.putfield 406, 3) := by decide +kernel
theorem dX13_roll_148 : decode cX13_roll 148 = .ok (.aload_n 0, 1) := by decide +kernel
theorem dX13_roll_149 : decode cX13_roll 149 = .ok (.iload_n 1, 1) := by decide +kernel
theorem dX13_roll_150 : decode cX13_roll 150 = .ok (.iconst 1, 1) := by decide +kernel
theorem dX13_roll_151 : decode cX13_roll 151 = .ok (.if_icmp .ne 11, 3) := by decide +kernel
theorem dX13_roll_154 : decode cX13_roll 154 = .ok (.iload_n 2, 1) := by decide +kernel
theorem dX13_roll_155 : decode cX13_roll 155 = .ok (.ifCond .le 7, 3) := by decide +kernel
theorem dX13_roll_158 : decode cX13_roll 158 = .ok (.iconst 1, 1) := by decide +kernel
theorem dX13_roll_159 : decode cX13_roll 159 = .ok (.goto 4, 3) := by decide +kernel
theorem dX13_roll_162 : decode cX13_roll 162 = .ok (.iconst 0, 1) := by decide +kernel
theorem dX13_roll_163 : decode cX13_roll 163 = .ok (.invokevirtual 410, 3) := by decide +kernel
theorem dX13_roll_166 : decode cX13_roll 166 = .ok (.iload_n 3, 1) := by decide +kernel
theorem dX13_roll_167 : decode cX13_roll 167 = .ok (.ifCond .ne 7, 3) := by decide +kernel
theorem dX13_roll_170 : decode cX13_roll 170 = .ok (.iconst (-1), 1) := by decide +kernel
theorem dX13_roll_171 : decode cX13_roll 171 = .ok (.goto 4, 3) := by decide +kernel
theorem dX13_roll_174 : decode cX13_roll 174 = .ok (.iload_n 2, 1) := by decide +kernel
theorem dX13_roll_175 : decode cX13_roll 175 = .ok (.ireturn, 1) := by decide +kernel
theorem dX13_stay_0 : decode cX13_stay 0 = .ok (.iconst 0, 1) := by decide +kernel
theorem dX13_stay_1 : decode cX13_stay 1 = .ok (.istore_n 2, 1) := by decide +kernel
theorem dX13_stay_2 : decode cX13_stay 2 = .ok (.iload_n 2, 1) := by decide +kernel
theorem dX13_stay_3 : decode cX13_stay 3 = .ok (.bipush 39, 2) := by decide +kernel
theorem dX13_stay_5 : decode cX13_stay 5 = .ok (.if_icmp .ge 41, 3) := by decide +kernel
theorem dX13_stay_8 : decode cX13_stay 8 = .ok (.aload_n 0, 1) := by decide +kernel
theorem dX13_stay_9 : decode cX13_stay 9 = .ok (.getfield 98, 3) := by decide +kernel
theorem dX13_stay_12 : decode cX13_stay 12 = .ok (.bipush 102, 2) := by decide +kernel
theorem dX13_stay_14 : decode cX13_stay 14 = .ok (.iload_n 2, 1) := by decide +kernel
theorem dX13_stay_15 : decode cX13_stay 15 = .ok (.iadd, 1) := by decide +kernel
theorem dX13_stay_16 : decode cX13_stay 16 = .ok (.iaload, 1) := by decide +kernel
theorem dX13_stay_17 : decode cX13_stay 17 = .ok (.istore_n 3, 1) := by decide +kernel
theorem dX13_stay_18 : decode cX13_stay 18 = .ok (.aload_n 0, 1) := by decide +kernel
theorem dX13_stay_19 : decode cX13_stay 19 = .ok (.getfield 98, 3) := by decide +kernel
theorem dX13_stay_22 : decode cX13_stay 22 = .ok (.bipush 102, 2) := by decide +kernel
theorem dX13_stay_24 : decode cX13_stay 24 = .ok (.iload_n 2, 1) := by decide +kernel
theorem dX13_stay_25 : decode cX13_stay 25 = .ok (.iadd, 1) := by decide +kernel
theorem dX13_stay_26 : decode cX13_stay 26 = .ok (.aload_n 0, 1) := by decide +kernel
theorem dX13_stay_27 : decode cX13_stay 27 = .ok (.getfield 110, 3) := by decide +kernel
theorem dX13_stay_30 : decode cX13_stay 30 = .ok (.iload_n 2, 1) := by decide +kernel
theorem dX13_stay_31 : decode cX13_stay 31 = .ok (.iaload, 1) := by decide +kernel
theorem dX13_stay_32 : decode cX13_stay 32 = .ok (.iastore, 1) := by decide +kernel
theorem dX13_stay_33 : decode cX13_stay 33 = .ok (.aload_n 0, 1) := by decide +kernel
theorem dX13_stay_34 : decode cX13_stay 34 = .ok (.getfield 110, 3) := by decide +kernel
theorem dX13_stay_37 : decode cX13_stay 37 = .ok (.iload_n 2, 1) := by decide +kernel
theorem dX13_stay_38 : decode cX13_stay 38 = .ok (.iload_n 3, 1) := by decide +kernel
theorem dX13_stay_39 : decode cX13_stay 39 = .ok (.iastore, 1) := by decide +kernel
theorem dX13_stay_40 : decode cX13_stay 40 = .ok (.iinc 2 1, 3) := by decide +kernel
theorem dX13_stay_43 : decode cX13_stay 43 = .ok (.goto (-41), 3) := by decide +kernel
theorem dX13_stay_46 : decode cX13_stay 46 = .ok (.iload_n 1, 1) := by decide +kernel
theorem dX13_stay_47 : decode cX13_stay 47 = .ok (.ifCond .ne 4, 3) := by decide +kernel
theorem dX13_stay_50 : decode cX13_stay 50 = .ok (.return_, 1) := by decide +kernel
theorem dX13_stay_51 : decode cX13_stay 51 = .ok (.aload_n 0, 1) := by decide +kernel
theorem dX13_stay_52 : decode cX13_stay 52 = .ok (.invokevirtual 293, 3) := by decide +kernel
theorem dX13_stay_55 : decode cX13_stay 55 = .ok (.aload_n 0, 1) := by decide +kernel
theorem dX13_stay_56 : decode cX13_stay 56 = .ok (.invokevirtual 321, 3) := by decide +kernel
theorem dX13_stay_59 : decode cX13_stay 59 = .ok (.return_, 1) := by decide +kernel
theorem dX13_rolled_0 : decode cX13_rolled 0 = .ok (.aload_n 0, 1) := by decide +kernel
theorem dX13_rolled_1 : decode cX13_rolled 1 = .ok (.iconst 0, 1) := by decide +kernel
theorem dX13_rolled_2 : decode cX13_rolled 2 = .ok (.putfield 1, 3) := by decide +kernel
theorem dX13_rolled_5 : decode cX13_rolled 5 = .ok (.aload_n 0, 1) := by decide +kernel
theorem dX13_rolled_6 : decode cX13_rolled 6 = .ok (.getfield 406, 3) := by decide +kernel
theorem dX13_rolled_9 : decode cX13_rolled 9 = .ok (.ifCond .eq 21, 3) := by decide +kernel
theorem dX13_rolled_12 : decode cX13_rolled 12 = .ok (.iload_n 1, 1) := by decide +kernel
theorem dX13_rolled_13 : decode cX13_rolled 13 = .ok (.iconst 0, 1) := by decide +kernel
theorem dX13_rolled_14 : decode cX13_rolled 14 = .ok (.iconst 3, 1) := by decide +kernel
theorem dX13_rolled_15 : decode cX13_rolled 15 = .ok (.invokestatic 75, 3) := by decide +kernel
theorem dX13_rolled_18 : decode cX13_rolled 18 = .ok (.ifCond .eq 12, 3) := by decide +kernel
theorem dX13_rolled_21 : decode cX13_rolled 21 = .ok (.aload_n 0, 1) := by decide +kernel
theorem dX13_rolled_22 : decode cX13_rolled 22 = .ok (.getfield 142, 3) := by decide +kernel
theorem dX13_rolled_25 : decode cX13_rolled 25 = .ok (.iload_n 1, 1) := by decide +kernel
theorem dX13_rolled_26 : decode cX13_rolled 26 = .ok (.iaload, 1) := by decide +kernel
theorem dX13_rolled_27 : decode cX13_rolled 27 = .ok (.goto 4, 3) := by decide +kernel
theorem dX13_rolled_30 : decode cX13_rolled 30 = .ok (.iconst (-1), 1) := by decide +kernel
theorem dX13_rolled_31 : decode cX13_rolled 31 = .ok (.ireturn, 1) := by decide +kernel
theorem dX13_saysOne_0 : decode cX13_saysOne 0 = .ok (.iconst 4, 1) := by decide +kernel
theorem dX13_saysOne_1 : decode cX13_saysOne 1 = .ok (.aload_n 0, 1) := by decide +kernel
theorem dX13_saysOne_2 : decode cX13_saysOne 2 = .ok (.getfield 414, 3) := by decide +kernel
theorem dX13_saysOne_5 : decode cX13_saysOne 5 = .ok (.imul, 1) := by decide +kernel
theorem dX13_saysOne_6 : decode cX13_saysOne 6 = .ok (.istore 5, 2) := by decide +kernel
theorem dX13_saysOne_8 : decode cX13_saysOne 8 = .ok (.aload_n 0, 1) := by decide +kernel
theorem dX13_saysOne_9 : decode cX13_saysOne 9 = .ok (.getfield 145, 3) := by decide +kernel
theorem dX13_saysOne_12 : decode cX13_saysOne 12 = .ok (.iload 5, 2) := by decide +kernel
theorem dX13_saysOne_14 : decode cX13_saysOne 14 = .ok (.iload_n 1, 1) := by decide +kernel
theorem dX13_saysOne_15 : decode cX13_saysOne 15 = .ok (.iastore, 1) := by decide +kernel
theorem dX13_saysOne_16 : decode cX13_saysOne 16 = .ok (.aload_n 0, 1) := by decide +kernel
theorem dX13_saysOne_17 : decode cX13_saysOne 17 = .ok (.getfield 145, 3) := by decide +kernel
theorem dX13_saysOne_20 : decode cX13_saysOne 20 = .ok (.iload 5, 2) := by decide +kernel
theorem dX13_saysOne_22 : decode cX13_saysOne 22 = .ok (.iconst 1, 1) := by decide +kernel
theorem dX13_saysOne_23 : decode cX13_saysOne 23 = .ok (.iadd, 1) := by decide +kernel
theorem dX13_saysOne_24 : decode cX13_saysOne 24 = .ok (.iload_n 2, 1) := by decide +kernel
theorem dX13_saysOne_25 : decode cX13_saysOne 25 = .ok (.iastore, 1) := by decide +kernel
theorem dX13_saysOne_26 : decode cX13_saysOne 26 = .ok (.aload_n 0, 1) := by decide +kernel
theorem dX13_saysOne_27 : decode cX13_saysOne 27 = .ok (.getfield 145, 3) := by decide +kernel
theorem dX13_saysOne_30 : decode cX13_saysOne 30 = .ok (.iload 5, 2) := by decide +kernel
theorem dX13_saysOne_32 : decode cX13_saysOne 32 = .ok (.iconst 2, 1) := by decide +kernel
theorem dX13_saysOne_33 : decode cX13_saysOne 33 = .ok (.iadd, 1) := by decide +kernel
theorem dX13_saysOne_34 : decode cX13_saysOne 34 = .ok (.iload_n 3, 1) := by decide +kernel
theorem dX13_saysOne_35 : decode cX13_saysOne 35 = .ok (.iastore, 1) := by decide +kernel
theorem dX13_saysOne_36 : decode cX13_saysOne 36 = .ok (.aload_n 0, 1) := by decide +kernel
theorem dX13_saysOne_37 : decode cX13_saysOne 37 = .ok (.getfield 145, 3) := by decide +kernel
theorem dX13_saysOne_40 : decode cX13_saysOne 40 = .ok (.iload 5, 2) := by decide +kernel
theorem dX13_saysOne_42 : decode cX13_saysOne 42 = .ok (.iconst 3, 1) := by decide +kernel
theorem dX13_saysOne_43 : decode cX13_saysOne 43 = .ok (.iadd, 1) := by decide +kernel
theorem dX13_saysOne_44 : decode cX13_saysOne 44 = .ok (.iload 4, 2) := by decide +kernel
theorem dX13_saysOne_46 : decode cX13_saysOne 46 = .ok (.iastore, 1) := by decide +kernel
theorem dX13_saysOne_47 : decode cX13_saysOne 47 = .ok (.aload_n 0, 1) := by decide +kernel
theorem dX13_saysOne_48 : decode cX13_saysOne 48 = .ok (.dup, 1) := by decide +kernel
theorem dX13_saysOne_49 : decode cX13_saysOne 49 = .ok (.getfield 414, 3) := by decide +kernel
theorem dX13_saysOne_52 : decode cX13_saysOne 52 = .ok (.iconst 1, 1) := by decide +kernel
theorem dX13_saysOne_53 : decode cX13_saysOne 53 = .ok (.iadd, 1) := by decide +kernel
theorem dX13_saysOne_54 : decode cX13_saysOne 54 = .ok (.putfield 414, 3) := by decide +kernel
theorem dX13_saysOne_57 : decode cX13_saysOne 57 = .ok (.aload_n 0, 1) := by decide +kernel
theorem dX13_saysOne_58 : decode cX13_saysOne 58 = .ok (.getfield 414, 3) := by decide +kernel
theorem dX13_saysOne_61 : decode cX13_saysOne 61 = .ok (.iconst 1, 1) := by decide +kernel
theorem dX13_saysOne_62 : decode cX13_saysOne 62 = .ok (.isub, 1) := by decide +kernel
theorem dX13_saysOne_63 : decode cX13_saysOne 63 = .ok (.ireturn, 1) := by decide +kernel
theorem dX13_readOr_0 : decode cX13_readOr 0 = .ok (.aload_n 0, 1) := by decide +kernel
theorem dX13_readOr_1 : decode cX13_readOr 1 = .ok (.invokevirtual 417, 3) := by decide +kernel
theorem dX13_readOr_4 : decode cX13_readOr 4 = .ok (.ifCond .ne 5, 3) := by decide +kernel
theorem dX13_readOr_7 : decode cX13_readOr 7 = .ok (.iconst 0, 1) := by decide +kernel
theorem dX13_readOr_8 : decode cX13_readOr 8 = .ok (.ireturn, 1) := by decide +kernel
theorem dX13_readOr_9 : decode cX13_readOr 9 = .ok (.aload_n 0, 1) := by decide +kernel
theorem dX13_readOr_10 : decode cX13_readOr 10 = .ok (.getfield 420, 3) := by decide +kernel
theorem dX13_readOr_13 : decode cX13_readOr 13 = .ok (.istore_n 1, 1) := by decide +kernel
theorem dX13_readOr_14 : decode cX13_readOr 14 = .ok (.aload_n 0, 1) := by decide +kernel
theorem dX13_readOr_15 : decode cX13_readOr 15 = .ok (.bipush 17, 2) := by decide +kernel
theorem dX13_readOr_17 : decode cX13_readOr 17 = .ok (.invokevirtual 191, 3) := by decide +kernel
theorem dX13_readOr_20 : decode cX13_readOr 20 = .ok (.ifCond .eq 31, 3) := by decide +kernel
theorem dX13_readOr_23 : decode cX13_readOr 23 = .ok (.aload_n 0, 1) := by decide +kernel
theorem dX13_readOr_24 : decode cX13_readOr 24 = .ok (.invokevirtual 82, 3) := by decide +kernel
theorem dX13_readOr_27 : decode cX13_readOr 27 = .ok (.aload_n 0, 1) := by decide +kernel
theorem dX13_readOr_28 : decode cX13_readOr 28 = .ok (.invokevirtual 417, 3) := by decide +kernel
theorem dX13_readOr_31 : decode cX13_readOr 31 = .ok (.ifCond .ne 5, 3) := by decide +kernel
theorem dX13_readOr_34 : decode cX13_readOr 34 = .ok (.iconst 0, 1) := by decide +kernel
theorem dX13_readOr_35 : decode cX13_readOr 35 = .ok (.ireturn, 1) := by decide +kernel
theorem dX13_readOr_36 : decode cX13_readOr 36 = .ok (.aload_n 0, 1) := by decide +kernel
theorem dX13_readOr_37 : decode cX13_readOr 37 = .ok (.iconst 3, 1) := by decide +kernel
theorem dX13_readOr_38 : decode cX13_readOr 38 = .ok (.iload_n 1, 1) := by decide +kernel
theorem dX13_readOr_39 : decode cX13_readOr 39 = .ok (.aload_n 0, 1) := by decide +kernel
theorem dX13_readOr_40 : decode cX13_readOr 40 = .ok (.getfield 420, 3) := by decide +kernel
theorem dX13_readOr_43 : decode cX13_readOr 43 = .ok (.iconst 0, 1) := by decide +kernel
theorem dX13_readOr_44 : decode cX13_readOr 44 = .ok (.invokevirtual 423, 3) := by decide +kernel
theorem dX13_readOr_47 : decode cX13_readOr 47 = .ok (.istore_n 1, 1) := by decide +kernel
theorem dX13_readOr_48 : decode cX13_readOr 48 = .ok (.goto (-34), 3) := by decide +kernel
theorem dX13_readOr_51 : decode cX13_readOr 51 = .ok (.aload_n 0, 1) := by decide +kernel
theorem dX13_readOr_52 : decode cX13_readOr 52 = .ok (.iload_n 1, 1) := by decide +kernel
theorem dX13_readOr_53 : decode cX13_readOr 53 = .ok (.putfield 420, 3) := by decide +kernel
theorem dX13_readOr_56 : decode cX13_readOr 56 = .ok (.iconst 1, 1) := by decide +kernel
theorem dX13_readOr_57 : decode cX13_readOr 57 = .ok (.ireturn, 1) := by decide +kernel
theorem dX13_readAnd_0 : decode cX13_readAnd 0 = .ok (.aload_n 0, 1) := by decide +kernel
theorem dX13_readAnd_1 : decode cX13_readAnd 1 = .ok (.invokevirtual 427, 3) := by decide +kernel
theorem dX13_readAnd_4 : decode cX13_readAnd 4 = .ok (.ifCond .ne 5, 3) := by decide +kernel
theorem dX13_readAnd_7 : decode cX13_readAnd 7 = .ok (.iconst 0, 1) := by decide +kernel
theorem dX13_readAnd_8 : decode cX13_readAnd 8 = .ok (.ireturn, 1) := by decide +kernel
theorem dX13_readAnd_9 : decode cX13_readAnd 9 = .ok (.aload_n 0, 1) := by decide +kernel
theorem dX13_readAnd_10 : decode cX13_readAnd 10 = .ok (.getfield 420, 3) := by decide +kernel
theorem dX13_readAnd_13 : decode cX13_readAnd 13 = .ok (.istore_n 1, 1) := by decide +kernel
theorem dX13_readAnd_14 : decode cX13_readAnd 14 = .ok (.aload_n 0, 1) := by decide +kernel
theorem dX13_readAnd_15 : decode cX13_readAnd 15 = .ok (.bipush 18, 2) := by decide +kernel
theorem dX13_readAnd_17 : decode cX13_readAnd 17 = .ok (.invokevirtual 191, 3) := by decide +kernel
theorem dX13_readAnd_20 : decode cX13_readAnd 20 = .ok (.ifCond .eq 31, 3) := by decide +kernel
theorem dX13_readAnd_23 : decode cX13_readAnd 23 = .ok (.aload_n 0, 1) := by decide +kernel
theorem dX13_readAnd_24 : decode cX13_readAnd 24 = .ok (.invokevirtual 82, 3) := by decide +kernel
theorem dX13_readAnd_27 : decode cX13_readAnd 27 = .ok (.aload_n 0, 1) := by decide +kernel
theorem dX13_readAnd_28 : decode cX13_readAnd 28 = .ok (.invokevirtual 427, 3) := by decide +kernel
theorem dX13_readAnd_31 : decode cX13_readAnd 31 = .ok (.ifCond .ne 5, 3) := by decide +kernel
theorem dX13_readAnd_34 : decode cX13_readAnd 34 = .ok (.iconst 0, 1) := by decide +kernel
theorem dX13_readAnd_35 : decode cX13_readAnd 35 = .ok (.ireturn, 1) := by decide +kernel
theorem dX13_readAnd_36 : decode cX13_readAnd 36 = .ok (.aload_n 0, 1) := by decide +kernel
theorem dX13_readAnd_37 : decode cX13_readAnd 37 = .ok (.iconst 2, 1) := by decide +kernel
theorem dX13_readAnd_38 : decode cX13_readAnd 38 = .ok (.iload_n 1, 1) := by decide +kernel
theorem dX13_readAnd_39 : decode cX13_readAnd 39 = .ok (.aload_n 0, 1) := by decide +kernel
theorem dX13_readAnd_40 : decode cX13_readAnd 40 = .ok (.getfield 420, 3) := by decide +kernel
theorem dX13_readAnd_43 : decode cX13_readAnd 43 = .ok (.iconst 0, 1) := by decide +kernel
theorem dX13_readAnd_44 : decode cX13_readAnd 44 = .ok (.invokevirtual 423, 3) := by decide +kernel
theorem dX13_readAnd_47 : decode cX13_readAnd 47 = .ok (.istore_n 1, 1) := by decide +kernel
theorem dX13_readAnd_48 : decode cX13_readAnd 48 = .ok (.goto (-34), 3) := by decide +kernel
theorem dX13_readAnd_51 : decode cX13_readAnd 51 = .ok (.aload_n 0, 1) := by decide +kernel
theorem dX13_readAnd_52 : decode cX13_readAnd 52 = .ok (.iload_n 1, 1) := by decide +kernel
theorem dX13_readAnd_53 : decode cX13_readAnd 53 = .ok (.putfield 420, 3) := by decide +kernel
theorem dX13_readAnd_56 : decode cX13_readAnd 56 = .ok (.iconst 1, 1) := by decide +kernel
theorem dX13_readAnd_57 : decode cX13_readAnd 57 = .ok (.ireturn, 1) := by decide +kernel
theorem dX13_readSaid_0 : decode cX13_readSaid 0 = .ok (.aload_n 0, 1) := by decide +kernel
theorem dX13_readSaid_1 : decode cX13_readSaid 1 = .ok (.bipush 40, 2) := by decide +kernel
theorem dX13_readSaid_3 : decode cX13_readSaid 3 = .ok (.invokevirtual 86, 3) := by decide +kernel
theorem dX13_readSaid_6 : decode cX13_readSaid 6 = .ok (.istore_n 1, 1) := by decide +kernel
theorem dX13_readSaid_7 : decode cX13_readSaid 7 = .ok (.bipush 19, 2) := by decide +kernel
theorem dX13_readSaid_9 : decode cX13_readSaid 9 = .ok (.istore_n 2, 1) := by decide +kernel
theorem dX13_readSaid_10 : decode cX13_readSaid 10 = .ok (.iload_n 2, 1) := by decide +kernel
theorem dX13_readSaid_11 : decode cX13_readSaid 11 = .ok (.bipush 28, 2) := by decide +kernel
theorem dX13_readSaid_13 : decode cX13_readSaid 13 = .ok (.if_icmp .gt 17, 3) := by decide +kernel
theorem dX13_readSaid_16 : decode cX13_readSaid 16 = .ok (.aload_n 0, 1) := by decide +kernel
theorem dX13_readSaid_17 : decode cX13_readSaid 17 = .ok (.iload_n 2, 1) := by decide +kernel
theorem dX13_readSaid_18 : decode cX13_readSaid 18 = .ok (.invokevirtual 191, 3) := by decide +kernel
theorem dX13_readSaid_21 : decode cX13_readSaid 21 = .ok (.ifCond .ne 9, 3) := by decide +kernel
theorem dX13_readSaid_24 : decode cX13_readSaid 24 = .ok (.iinc 2 1, 3) := by decide +kernel
theorem dX13_readSaid_27 : decode cX13_readSaid 27 = .ok (.goto (-17), 3) := by decide +kernel
theorem dX13_readSaid_30 : decode cX13_readSaid 30 = .ok (.iload_n 1, 1) := by decide +kernel
theorem dX13_readSaid_31 : decode cX13_readSaid 31 = .ok (.ifCond .ne 15, 3) := by decide +kernel
theorem dX13_readSaid_34 : decode cX13_readSaid 34 = .ok (.iload_n 2, 1) := by decide +kernel
theorem dX13_readSaid_35 : decode cX13_readSaid 35 = .ok (.bipush 28, 2) := by decide +kernel
theorem dX13_readSaid_37 : decode cX13_readSaid 37 = .ok (.if_icmp .le 9, 3) := by decide +kernel
theorem dX13_readSaid_40 : decode cX13_readSaid 40 = .ok (.aload_n 0, 1) := by decide +kernel
theorem dX13_readSaid_41 : decode cX13_readSaid 41 = .ok (.iconst 1, 1) := by decide +kernel
theorem dX13_readSaid_42 : decode cX13_readSaid 42 = .ok (.invokevirtual 72, 3) := by decide +kernel
theorem dX13_readSaid_45 : decode cX13_readSaid 45 = .ok (.ireturn, 1) := by decide +kernel
theorem dX13_readSaid_46 : decode cX13_readSaid 46 = .ok (.aload_n 0, 1) := by decide +kernel
theorem dX13_readSaid_47 : decode cX13_readSaid 47 = .ok (.getfield 430, 3) := by decide +kernel
theorem dX13_readSaid_50 : decode cX13_readSaid 50 = .ok (.bipush 20, 2) := by decide +kernel
theorem dX13_readSaid_52 : decode cX13_readSaid 52 = .ok (.if_icmp .eq 12, 3) := by decide +kernel
theorem dX13_readSaid_55 : decode cX13_readSaid 55 = .ok (.aload_n 0, 1) := by decide +kernel
theorem dX13_readSaid_56 : decode cX13_readSaid 56 = .ok (.getfield 433, 3) := by decide +kernel
theorem dX13_readSaid_59 : decode cX13_readSaid 59 = .ok (.bipush 8, 2) := by decide +kernel
theorem dX13_readSaid_61 : decode cX13_readSaid 61 = .ok (.if_icmp .ne 9, 3) := by decide +kernel
theorem dX13_readSaid_64 : decode cX13_readSaid 64 = .ok (.aload_n 0, 1) := by decide +kernel
theorem dX13_readSaid_65 : decode cX13_readSaid 65 = .ok (.iconst 4, 1) := by decide +kernel
theorem dX13_readSaid_66 : decode cX13_readSaid 66 = .ok (.invokevirtual 72, 3) := by decide +kernel
theorem dX13_readSaid_69 : decode cX13_readSaid 69 = .ok (.ireturn, 1) := by decide +kernel
theorem dX13_readSaid_70 : decode cX13_readSaid 70 = .ok (.aload_n 0, 1) := by decide +kernel
theorem dX13_readSaid_71 : decode cX13_readSaid 71 = .ok (.dup, 1) := by decide +kernel
theorem dX13_readSaid_72 : decode cX13_readSaid 72 = .ok (.getfield 430, 3) := by decide +kernel
theorem dX13_readSaid_75 : decode cX13_readSaid 75 = .ok (.iconst 1, 1) := by decide +kernel
theorem dX13_readSaid_76 : decode cX13_readSaid 76 = .ok (.iadd, 1) := by decide +kernel
theorem dX13_readSaid_77 : decode cX13_readSaid 77 = .ok (.putfield 430, 3) := by decide +kernel
theorem dX13_readSaid_80 : decode cX13_readSaid 80 = .ok (.aload_n 0, 1) := by decide +kernel
theorem dX13_readSaid_81 : decode cX13_readSaid 81 = .ok (.dup, 1) := by decide +kernel
theorem dX13_readSaid_82 : decode cX13_readSaid 82 = .ok (.getfield 433, 3) := by decide +kernel
theorem dX13_readSaid_85 : decode cX13_readSaid 85 = .ok (.iconst 1, 1) := by decide +kernel
theorem dX13_readSaid_86 : decode cX13_readSaid 86 = .ok (.iadd, 1) := by decide +kernel
theorem dX13_readSaid_87 : decode cX13_readSaid 87 = .ok (.putfield 433, 3) := by decide +kernel
theorem dX13_readSaid_90 : decode cX13_readSaid 90 = .ok (.aload_n 0, 1) := by decide +kernel
theorem dX13_readSaid_91 : decode cX13_readSaid 91 = .ok (.invokevirtual 82, 3) := by decide +kernel
theorem dX13_readSaid_94 : decode cX13_readSaid 94 = .ok (.iconst 1, 1) := by decide +kernel
theorem dX13_readSaid_95 : decode cX13_readSaid 95 = .ok (.istore_n 3, 1) := by decide +kernel
theorem dX13_readSaid_96 : decode cX13_readSaid 96 = .ok (.iload_n 1, 1) := by decide +kernel
theorem dX13_readSaid_97 : decode cX13_readSaid 97 = .ok (.ifCond .eq 11, 3) := by decide +kernel
theorem dX13_readSaid_100 : decode cX13_readSaid 100 = .ok (.aload_n 0, 1) := by decide +kernel
theorem dX13_readSaid_101 : decode cX13_readSaid 101 = .ok (.invokevirtual 436, 3) := by decide +kernel
theorem dX13_readSaid_104 : decode cX13_readSaid 104 = .ok (.istore_n 3, 1) := by decide +kernel
theorem dX13_readSaid_105 : decode cX13_readSaid 105 = .ok (.goto 61, 3) := by decide +kernel
theorem dX13_readSaid_108 : decode cX13_readSaid 108 = .ok (.iload_n 2, 1) := by decide +kernel
theorem dX13_readSaid_109 : decode cX13_readSaid 109 = .ok (.bipush 19, 2) := by decide +kernel
theorem dX13_readSaid_111 : decode cX13_readSaid 111 = .ok (.if_icmp .ne 11, 3) := by decide +kernel
theorem dX13_readSaid_114 : decode cX13_readSaid 114 = .ok (.aload_n 0, 1) := by decide +kernel
theorem dX13_readSaid_115 : decode cX13_readSaid 115 = .ok (.invokevirtual 439, 3) := by decide +kernel
theorem dX13_readSaid_118 : decode cX13_readSaid 118 = .ok (.istore_n 3, 1) := by decide +kernel
theorem dX13_readSaid_119 : decode cX13_readSaid 119 = .ok (.goto 47, 3) := by decide +kernel
theorem dX13_readSaid_122 : decode cX13_readSaid 122 = .ok (.iload_n 2, 1) := by decide +kernel
theorem dX13_readSaid_123 : decode cX13_readSaid 123 = .ok (.bipush 24, 2) := by decide +kernel
theorem dX13_readSaid_125 : decode cX13_readSaid 125 = .ok (.if_icmp .ge 21, 3) := by decide +kernel
theorem dX13_readSaid_128 : decode cX13_readSaid 128 = .ok (.aload_n 0, 1) := by decide +kernel
theorem dX13_readSaid_129 : decode cX13_readSaid 129 = .ok (.aload_n 0, 1) := by decide +kernel
theorem dX13_readSaid_130 : decode cX13_readSaid 130 = .ok (.bipush 50, 2) := by decide +kernel
theorem dX13_readSaid_132 : decode cX13_readSaid 132 = .ok (.iload_n 2, 1) := by decide +kernel
theorem dX13_readSaid_133 : decode cX13_readSaid 133 = .ok (.iadd, 1) := by decide +kernel
theorem dX13_readSaid_134 : decode cX13_readSaid 134 = .ok (.iconst 0, 1) := by decide +kernel
theorem dX13_readSaid_135 : decode cX13_readSaid 135 = .ok (.iconst 0, 1) := by decide +kernel
theorem dX13_readSaid_136 : decode cX13_readSaid 136 = .ok (.iconst 0, 1) := by decide +kernel
theorem dX13_readSaid_137 : decode cX13_readSaid 137 = .ok (.invokevirtual 423, 3) := by decide +kernel
theorem dX13_readSaid_140 : decode cX13_readSaid 140 = .ok (.putfield 420, 3) := by decide +kernel
theorem dX13_readSaid_143 : decode cX13_readSaid 143 = .ok (.goto 23, 3) := by decide +kernel
theorem dX13_readSaid_146 : decode cX13_readSaid 146 = .ok (.iload_n 2, 1) := by decide +kernel
theorem dX13_readSaid_147 : decode cX13_readSaid 147 = .ok (.bipush 25, 2) := by decide +kernel
theorem dX13_readSaid_149 : decode cX13_readSaid 149 = .ok (.if_icmp .ge 11, 3) := by decide +kernel
theorem dX13_readSaid_152 : decode cX13_readSaid 152 = .ok (.aload_n 0, 1) := by decide +kernel
theorem dX13_readSaid_153 : decode cX13_readSaid 153 = .ok (.iload_n 2, 1) := by decide +kernel
theorem dX13_readSaid_154 : decode cX13_readSaid 154 = .ok (.invokevirtual 442, 3) := by decide +kernel
theorem dX13_readSaid_157 : decode cX13_readSaid 157 = .ok (.goto 8, 3) := by decide +kernel
theorem dX13_readSaid_160 : decode cX13_readSaid 160 = .ok (.aload_n 0, 1) := by decide +kernel
theorem dX13_readSaid_161 : decode cX13_readSaid 161 = .ok (.iload_n 2, 1) := by decide +kernel
theorem dX13_readSaid_162 : decode cX13_readSaid 162 = .ok (.invokevirtual 445, 3) := by decide +kernel
theorem dX13_readSaid_165 : decode cX13_readSaid 165 = .ok (.istore_n 3, 1) := by decide +kernel
theorem dX13_readSaid_166 : decode cX13_readSaid 166 = .ok (.aload_n 0, 1) := by decide +kernel
theorem dX13_readSaid_167 : decode cX13_readSaid 167 = .ok (.dup, 1) := by decide +kernel
theorem dX13_readSaid_168 : decode cX13_readSaid 168 = .ok (.getfield 433, 3) := by decide +kernel
theorem dX13_readSaid_171 : decode cX13_readSaid 171 = .ok (.iconst 1, 1) := by decide +kernel
theorem dX13_readSaid_172 : decode cX13_readSaid 172 = .ok (.isub, 1) := by decide +kernel
theorem dX13_readSaid_173 : decode cX13_readSaid 173 = .ok (.putfield 433, 3) := by decide +kernel
theorem dX13_readSaid_176 : decode cX13_readSaid 176 = .ok (.iload_n 3, 1) := by decide +kernel
theorem dX13_readSaid_177 : decode cX13_readSaid 177 = .ok (.ireturn, 1) := by decide +kernel
theorem dX13_readNot_0 : decode cX13_readNot 0 = .ok (.aload_n 0, 1) := by decide +kernel
theorem dX13_readNot_1 : decode cX13_readNot 1 = .ok (.invokevirtual 427, 3) := by decide +kernel
theorem dX13_readNot_4 : decode cX13_readNot 4 = .ok (.ifCond .ne 5, 3) := by decide +kernel
theorem dX13_readNot_7 : decode cX13_readNot 7 = .ok (.iconst 0, 1) := by decide +kernel
theorem dX13_readNot_8 : decode cX13_readNot 8 = .ok (.ireturn, 1) := by decide +kernel
theorem dX13_readNot_9 : decode cX13_readNot 9 = .ok (.aload_n 0, 1) := by decide +kernel
theorem dX13_readNot_10 : decode cX13_readNot 10 = .ok (.aload_n 0, 1) := by decide +kernel
theorem dX13_readNot_11 : decode cX13_readNot 11 = .ok (.iconst 1, 1) := by decide +kernel
theorem dX13_readNot_12 : decode cX13_readNot 12 = .ok (.aload_n 0, 1) := by decide +kernel
theorem dX13_readNot_13 : decode cX13_readNot 13 = .ok (.getfield 420, 3) := by decide +kernel
theorem dX13_readNot_16 : decode cX13_readNot 16 = .ok (.iconst 0, 1) := by decide +kernel
theorem dX13_readNot_17 : decode cX13_readNot 17 = .ok (.iconst 0, 1) := by decide +kernel
theorem dX13_readNot_18 : decode cX13_readNot 18 = .ok (.invokevirtual 423, 3) := by decide +kernel
theorem dX13_readNot_21 : decode cX13_readNot 21 = .ok (.putfield 420, 3) := by decide +kernel
theorem dX13_readNot_24 : decode cX13_readNot 24 = .ok (.iconst 1, 1) := by decide +kernel
theorem dX13_readNot_25 : decode cX13_readNot 25 = .ok (.ireturn, 1) := by decide +kernel
theorem dX13_readBracket_0 : decode cX13_readBracket 0 = .ok (.aload_n 0, 1) := by decide +kernel
theorem dX13_readBracket_1 : decode cX13_readBracket 1 = .ok (.invokevirtual 448, 3) := by decide +kernel
theorem dX13_readBracket_4 : decode cX13_readBracket 4 = .ok (.ifCond .ne 5, 3) := by decide +kernel
theorem dX13_readBracket_7 : decode cX13_readBracket 7 = .ok (.iconst 0, 1) := by decide +kernel
theorem dX13_readBracket_8 : decode cX13_readBracket 8 = .ok (.ireturn, 1) := by decide +kernel
theorem dX13_readBracket_9 : decode cX13_readBracket 9 = .ok (.aload_n 0, 1) := by decide +kernel
theorem dX13_readBracket_10 : decode cX13_readBracket 10 = .ok (.bipush 41, 2) := by decide +kernel
theorem dX13_readBracket_12 : decode cX13_readBracket 12 = .ok (.invokevirtual 86, 3) := by decide +kernel
theorem dX13_readBracket_15 : decode cX13_readBracket 15 = .ok (.ifCond .ne 9, 3) := by decide +kernel
theorem dX13_readBracket_18 : decode cX13_readBracket 18 = .ok (.aload_n 0, 1) := by decide +kernel
theorem dX13_readBracket_19 : decode cX13_readBracket 19 = .ok (.iconst 1, 1) := by decide +kernel
theorem dX13_readBracket_20 : decode cX13_readBracket 20 = .ok (.invokevirtual 72, 3) := by decide +kernel
theorem dX13_readBracket_23 : decode cX13_readBracket 23 = .ok (.ireturn, 1) := by decide +kernel
theorem dX13_readBracket_24 : decode cX13_readBracket 24 = .ok (.aload_n 0, 1) := by decide +kernel
theorem dX13_readBracket_25 : decode cX13_readBracket 25 = .ok (.invokevirtual 82, 3) := by decide +kernel
theorem dX13_readBracket_28 : decode cX13_readBracket 28 = .ok (.iconst 1, 1) := by decide +kernel
theorem dX13_readBracket_29 : decode cX13_readBracket 29 = .ok (.ireturn, 1) := by decide +kernel
theorem dX13_readOf_0 : decode cX13_readOf 0 = .ok (.aload_n 0, 1) := by decide +kernel
theorem dX13_readOf_1 : decode cX13_readOf 1 = .ok (.iconst 0, 1) := by decide +kernel
theorem dX13_readOf_2 : decode cX13_readOf 2 = .ok (.aload_n 0, 1) := by decide +kernel
theorem dX13_readOf_3 : decode cX13_readOf 3 = .ok (.getfield 98, 3) := by decide +kernel
theorem dX13_readOf_6 : decode cX13_readOf 6 = .ok (.iconst 0, 1) := by decide +kernel
theorem dX13_readOf_7 : decode cX13_readOf 7 = .ok (.iaload, 1) := by decide +kernel
theorem dX13_readOf_8 : decode cX13_readOf 8 = .ok (.invokevirtual 451, 3) := by decide +kernel
theorem dX13_readOf_11 : decode cX13_readOf 11 = .ok (.ifCond .ne 5, 3) := by decide +kernel
theorem dX13_readOf_14 : decode cX13_readOf 14 = .ok (.iconst 0, 1) := by decide +kernel
theorem dX13_readOf_15 : decode cX13_readOf 15 = .ok (.ireturn, 1) := by decide +kernel
theorem dX13_readOf_16 : decode cX13_readOf 16 = .ok (.aload_n 0, 1) := by decide +kernel
theorem dX13_readOf_17 : decode cX13_readOf 17 = .ok (.aload_n 0, 1) := by decide +kernel
theorem dX13_readOf_18 : decode cX13_readOf 18 = .ok (.bipush 50, 2) := by decide +kernel
theorem dX13_readOf_20 : decode cX13_readOf 20 = .ok (.iload_n 1, 1) := by decide +kernel
theorem dX13_readOf_21 : decode cX13_readOf 21 = .ok (.iadd, 1) := by decide +kernel
theorem dX13_readOf_22 : decode cX13_readOf 22 = .ok (.aload_n 0, 1) := by decide +kernel
theorem dX13_readOf_23 : decode cX13_readOf 23 = .ok (.getfield 79, 3) := by decide +kernel
theorem dX13_readOf_26 : decode cX13_readOf 26 = .ok (.iconst 0, 1) := by decide +kernel
theorem dX13_readOf_27 : decode cX13_readOf 27 = .ok (.iconst 0, 1) := by decide +kernel
theorem dX13_readOf_28 : decode cX13_readOf 28 = .ok (.invokevirtual 423, 3) := by decide +kernel
theorem dX13_readOf_31 : decode cX13_readOf 31 = .ok (.putfield 420, 3) := by decide +kernel
theorem dX13_readOf_34 : decode cX13_readOf 34 = .ok (.iconst 1, 1) := by decide +kernel
theorem dX13_readOf_35 : decode cX13_readOf 35 = .ok (.ireturn, 1) := by decide +kernel
theorem dX13_readCompare_0 : decode cX13_readCompare 0 = .ok (.aload_n 0, 1) := by decide +kernel
theorem dX13_readCompare_1 : decode cX13_readCompare 1 = .ok (.bipush 60, 2) := by decide +kernel
theorem dX13_readCompare_3 : decode cX13_readCompare 3 = .ok (.invokevirtual 86, 3) := by decide +kernel
theorem dX13_readCompare_6 : decode cX13_readCompare 6 = .ok (.ifCond .ne 27, 3) := by decide +kernel
theorem dX13_readCompare_9 : decode cX13_readCompare 9 = .ok (.aload_n 0, 1) := by decide +kernel
theorem dX13_readCompare_10 : decode cX13_readCompare 10 = .ok (.bipush 61, 2) := by decide +kernel
theorem dX13_readCompare_12 : decode cX13_readCompare 12 = .ok (.invokevirtual 86, 3) := by decide +kernel
theorem dX13_readCompare_15 : decode cX13_readCompare 15 = .ok (.ifCond .ne 18, 3) := by decide +kernel
theorem dX13_readCompare_18 : decode cX13_readCompare 18 = .ok (.aload_n 0, 1) := by decide +kernel
theorem dX13_readCompare_19 : decode cX13_readCompare 19 = .ok (.bipush 62, 2) := by decide +kernel
theorem dX13_readCompare_21 : decode cX13_readCompare 21 = .ok (.invokevirtual 86, 3) := by decide +kernel
theorem dX13_readCompare_24 : decode cX13_readCompare 24 = .ok (.ifCond .ne 9, 3) := by decide +kernel
theorem dX13_readCompare_27 : decode cX13_readCompare 27 = .ok (.aload_n 0, 1) := by decide +kernel
theorem dX13_readCompare_28 : decode cX13_readCompare 28 = .ok (.iconst 1, 1) := by decide +kernel
theorem dX13_readCompare_29 : decode cX13_readCompare 29 = .ok (.invokevirtual 72, 3) := by decide +kernel
theorem dX13_readCompare_32 : decode cX13_readCompare 32 = .ok (.ireturn, 1) := by decide +kernel
theorem dX13_readCompare_33 : decode cX13_readCompare 33 = .ok (.aload_n 0, 1) := by decide +kernel
theorem dX13_readCompare_34 : decode cX13_readCompare 34 = .ok (.getfield 40, 3) := by decide +kernel
theorem dX13_readCompare_37 : decode cX13_readCompare 37 = .ok (.istore_n 2, 1) := by decide +kernel
theorem dX13_readCompare_38 : decode cX13_readCompare 38 = .ok (.aload_n 0, 1) := by decide +kernel
theorem dX13_readCompare_39 : decode cX13_readCompare 39 = .ok (.invokevirtual 82, 3) := by decide +kernel
theorem dX13_readCompare_42 : decode cX13_readCompare 42 = .ok (.aload_n 0, 1) := by decide +kernel
theorem dX13_readCompare_43 : decode cX13_readCompare 43 = .ok (.iconst 0, 1) := by decide +kernel
theorem dX13_readCompare_44 : decode cX13_readCompare 44 = .ok (.sipush 999, 3) := by decide +kernel
theorem dX13_readCompare_47 : decode cX13_readCompare 47 = .ok (.invokevirtual 172, 3) := by decide +kernel
theorem dX13_readCompare_50 : decode cX13_readCompare 50 = .ok (.ifCond .ne 5, 3) := by decide +kernel
theorem dX13_readCompare_53 : decode cX13_readCompare 53 = .ok (.iconst 0, 1) := by decide +kernel
theorem dX13_readCompare_54 : decode cX13_readCompare 54 = .ok (.ireturn, 1) := by decide +kernel
theorem dX13_readCompare_55 : decode cX13_readCompare 55 = .ok (.aload_n 0, 1) := by decide +kernel
theorem dX13_readCompare_56 : decode cX13_readCompare 56 = .ok (.aload_n 0, 1) := by decide +kernel
theorem dX13_readCompare_57 : decode cX13_readCompare 57 = .ok (.bipush 50, 2) := by decide +kernel
theorem dX13_readCompare_59 : decode cX13_readCompare 59 = .ok (.iload_n 1, 1) := by decide +kernel
theorem dX13_readCompare_60 : decode cX13_readCompare 60 = .ok (.iadd, 1) := by decide +kernel
theorem dX13_readCompare_61 : decode cX13_readCompare 61 = .ok (.iconst 0, 1) := by decide +kernel
theorem dX13_readCompare_62 : decode cX13_readCompare 62 = .ok (.aload_n 0, 1) := by decide +kernel
theorem dX13_readCompare_63 : decode cX13_readCompare 63 = .ok (.getfield 79, 3) := by decide +kernel
theorem dX13_readCompare_66 : decode cX13_readCompare 66 = .ok (.iload_n 2, 1) := by decide +kernel
theorem dX13_readCompare_67 : decode cX13_readCompare 67 = .ok (.invokevirtual 423, 3) := by decide +kernel
theorem dX13_readCompare_70 : decode cX13_readCompare 70 = .ok (.putfield 420, 3) := by decide +kernel
theorem dX13_readCompare_73 : decode cX13_readCompare 73 = .ok (.iconst 1, 1) := by decide +kernel
theorem dX13_readCompare_74 : decode cX13_readCompare 74 = .ok (.ireturn, 1) := by decide +kernel
theorem dX13_sentence_0 : decode cX13_sentence 0 = .ok (.aload_n 0, 1) := by decide +kernel
theorem dX13_sentence_1 : decode cX13_sentence 1 = .ok (.sipush 200, 3) := by decide +kernel
theorem dX13_sentence_4 : decode cX13_sentence 4 = .ok (.invokevirtual 212, 3) := by decide +kernel
theorem dX13_sentence_7 : decode cX13_sentence 7 = .ok (.aload_n 0, 1) := by decide +kernel
theorem dX13_sentence_8 : decode cX13_sentence 8 = .ok (.iconst 0, 1) := by decide +kernel
theorem dX13_sentence_9 : decode cX13_sentence 9 = .ok (.putfield 414, 3) := by decide +kernel
theorem dX13_sentence_12 : decode cX13_sentence 12 = .ok (.aload_n 0, 1) := by decide +kernel
theorem dX13_sentence_13 : decode cX13_sentence 13 = .ok (.iconst 0, 1) := by decide +kernel
theorem dX13_sentence_14 : decode cX13_sentence 14 = .ok (.putfield 430, 3) := by decide +kernel
theorem dX13_sentence_17 : decode cX13_sentence 17 = .ok (.aload_n 0, 1) := by decide +kernel
theorem dX13_sentence_18 : decode cX13_sentence 18 = .ok (.iconst 0, 1) := by decide +kernel
theorem dX13_sentence_19 : decode cX13_sentence 19 = .ok (.putfield 433, 3) := by decide +kernel
theorem dX13_sentence_22 : decode cX13_sentence 22 = .ok (.aload_n 0, 1) := by decide +kernel
theorem dX13_sentence_23 : decode cX13_sentence 23 = .ok (.invokevirtual 448, 3) := by decide +kernel
theorem dX13_sentence_26 : decode cX13_sentence 26 = .ok (.ifCond .ne 10, 3) := by decide +kernel
theorem dX13_sentence_29 : decode cX13_sentence 29 = .ok (.iconst (-1), 1) := by decide +kernel
theorem dX13_sentence_30 : decode cX13_sentence 30 = .ok (.aload_n 0, 1) := by decide +kernel
theorem dX13_sentence_31 : decode cX13_sentence 31 = .ok (.getfield 69, 3) := by decide +kernel
theorem dX13_sentence_34 : decode cX13_sentence 34 = .ok (.isub, 1) := by decide +kernel
theorem dX13_sentence_35 : decode cX13_sentence 35 = .ok (.ireturn, 1) := by decide +kernel
theorem dX13_sentence_36 : decode cX13_sentence 36 = .ok (.aload_n 0, 1) := by decide +kernel
theorem dX13_sentence_37 : decode cX13_sentence 37 = .ok (.getfield 30, 3) := by decide +kernel
theorem dX13_sentence_40 : decode cX13_sentence 40 = .ok (.ifCond .eq 16, 3) := by decide +kernel
theorem dX13_sentence_43 : decode cX13_sentence 43 = .ok (.aload_n 0, 1) := by decide +kernel
theorem dX13_sentence_44 : decode cX13_sentence 44 = .ok (.iconst 1, 1) := by decide +kernel
theorem dX13_sentence_45 : decode cX13_sentence 45 = .ok (.invokevirtual 72, 3) := by decide +kernel
theorem dX13_sentence_48 : decode cX13_sentence 48 = .ok (.pop, 1) := by decide +kernel
theorem dX13_sentence_49 : decode cX13_sentence 49 = .ok (.iconst (-1), 1) := by decide +kernel
theorem dX13_sentence_50 : decode cX13_sentence 50 = .ok (.aload_n 0, 1) := by decide +kernel
theorem dX13_sentence_51 : decode cX13_sentence 51 = .ok (.getfield 69, 3) := by decide +kernel
theorem dX13_sentence_54 : decode cX13_sentence 54 = .ok (.isub, 1) := by decide +kernel
theorem dX13_sentence_55 : decode cX13_sentence 55 = .ok (.ireturn, 1) := by decide +kernel
theorem dX13_sentence_56 : decode cX13_sentence 56 = .ok (.aload_n 0, 1) := by decide +kernel
theorem dX13_sentence_57 : decode cX13_sentence 57 = .ok (.getfield 98, 3) := by decide +kernel
theorem dX13_sentence_60 : decode cX13_sentence 60 = .ok (.sipush 141, 3) := by decide +kernel
theorem dX13_sentence_63 : decode cX13_sentence 63 = .ok (.iconst 1, 1) := by decide +kernel
theorem dX13_sentence_64 : decode cX13_sentence 64 = .ok (.iastore, 1) := by decide +kernel
theorem dX13_sentence_65 : decode cX13_sentence 65 = .ok (.aload_n 0, 1) := by decide +kernel
theorem dX13_sentence_66 : decode cX13_sentence 66 = .ok (.getfield 98, 3) := by decide +kernel
theorem dX13_sentence_69 : decode cX13_sentence 69 = .ok (.sipush 142, 3) := by decide +kernel
theorem dX13_sentence_72 : decode cX13_sentence 72 = .ok (.aload_n 0, 1) := by decide +kernel
theorem dX13_sentence_73 : decode cX13_sentence 73 = .ok (.getfield 420, 3) := by decide +kernel
theorem dX13_sentence_76 : decode cX13_sentence 76 = .ok (.iastore, 1) := by decide +kernel
theorem dX13_sentence_77 : decode cX13_sentence 77 = .ok (.iconst 0, 1) := by decide +kernel
theorem dX13_sentence_78 : decode cX13_sentence 78 = .ok (.istore_n 1, 1) := by decide +kernel
theorem dX13_sentence_79 : decode cX13_sentence 79 = .ok (.iload_n 1, 1) := by decide +kernel
theorem dX13_sentence_80 : decode cX13_sentence 80 = .ok (.sipush 240, 3) := by decide +kernel
theorem dX13_sentence_83 : decode cX13_sentence 83 = .ok (.if_icmp .ge 25, 3) := by decide +kernel
theorem dX13_sentence_86 : decode cX13_sentence 86 = .ok (.aload_n 0, 1) := by decide +kernel
theorem dX13_sentence_87 : decode cX13_sentence 87 = .ok (.getfield 98, 3) := by decide +kernel
theorem dX13_sentence_90 : decode cX13_sentence 90 = .ok (.sipush 143, 3) := by decide +kernel
theorem dX13_sentence_93 : decode cX13_sentence 93 = .ok (.iload_n 1, 1) := by decide +kernel
theorem dX13_sentence_94 : decode cX13_sentence 94 = .ok (.iadd, 1) := by decide +kernel
theorem dX13_sentence_95 : decode cX13_sentence 95 = .ok (.aload_n 0, 1) := by decide +kernel
theorem dX13_sentence_96 : decode cX13_sentence 96 = .ok (.getfield 145, 3) := by decide +kernel
theorem dX13_sentence_99 : decode cX13_sentence 99 = .ok (.iload_n 1, 1) := by decide +kernel
theorem dX13_sentence_100 : decode cX13_sentence 100 = .ok (.iaload, 1) := by decide +kernel
theorem dX13_sentence_101 : decode cX13_sentence 101 = .ok (.iastore, 1) := by decide +kernel
theorem dX13_sentence_102 : decode cX13_sentence 102 = .ok (.iinc 1 1, 3) := by decide +kernel
theorem dX13_sentence_105 : decode cX13_sentence 105 = .ok (.goto (-26), 3) := by decide +kernel
theorem dX13_sentence_108 : decode cX13_sentence 108 = .ok (.aload_n 0, 1) := by decide +kernel
theorem dX13_sentence_109 : decode cX13_sentence 109 = .ok (.getfield 430, 3) := by decide +kernel
theorem dX13_sentence_112 : decode cX13_sentence 112 = .ok (.ireturn, 1) := by decide +kernel
theorem dX13_holds_0 : decode cX13_holds 0 = .ok (.sipush 143, 3) := by decide +kernel
theorem dX13_holds_3 : decode cX13_holds 3 = .ok (.iconst 4, 1) := by decide +kernel
theorem dX13_holds_4 : decode cX13_holds 4 = .ok (.iload_n 1, 1) := by decide +kernel
theorem dX13_holds_5 : decode cX13_holds 5 = .ok (.imul, 1) := by decide +kernel
theorem dX13_holds_6 : decode cX13_holds 6 = .ok (.iadd, 1) := by decide +kernel
theorem dX13_holds_7 : decode cX13_holds 7 = .ok (.istore_n 3, 1) := by decide +kernel
theorem dX13_holds_8 : decode cX13_holds 8 = .ok (.aload_n 0, 1) := by decide +kernel
theorem dX13_holds_9 : decode cX13_holds 9 = .ok (.getfield 98, 3) := by decide +kernel
theorem dX13_holds_12 : decode cX13_holds 12 = .ok (.iload_n 3, 1) := by decide +kernel
theorem dX13_holds_13 : decode cX13_holds 13 = .ok (.iconst 1, 1) := by decide +kernel
theorem dX13_holds_14 : decode cX13_holds 14 = .ok (.iadd, 1) := by decide +kernel
theorem dX13_holds_15 : decode cX13_holds 15 = .ok (.iaload, 1) := by decide +kernel
theorem dX13_holds_16 : decode cX13_holds 16 = .ok (.istore 4, 2) := by decide +kernel
theorem dX13_holds_18 : decode cX13_holds 18 = .ok (.aload_n 0, 1) := by decide +kernel
theorem dX13_holds_19 : decode cX13_holds 19 = .ok (.getfield 98, 3) := by decide +kernel
theorem dX13_holds_22 : decode cX13_holds 22 = .ok (.iload_n 3, 1) := by decide +kernel
theorem dX13_holds_23 : decode cX13_holds 23 = .ok (.iconst 2, 1) := by decide +kernel
theorem dX13_holds_24 : decode cX13_holds 24 = .ok (.iadd, 1) := by decide +kernel
theorem dX13_holds_25 : decode cX13_holds 25 = .ok (.iaload, 1) := by decide +kernel
theorem dX13_holds_26 : decode cX13_holds 26 = .ok (.istore 5, 2) := by decide +kernel
theorem dX13_holds_28 : decode cX13_holds 28 = .ok (.aload_n 0, 1) := by decide +kernel
theorem dX13_holds_29 : decode cX13_holds 29 = .ok (.getfield 98, 3) := by decide +kernel
theorem dX13_holds_32 : decode cX13_holds 32 = .ok (.iload_n 3, 1) := by decide +kernel
theorem dX13_holds_33 : decode cX13_holds 33 = .ok (.iaload, 1) := by decide +kernel
theorem dX13_holds_34 : decode cX13_holds 34 = .ok (.lookupswitch 272 #[(1, 74), (2, 90), (3, 116), (70, 142), (71, 148), (72, 166), (73, 186), (74, 238)], 74) := by decide +kernel
theorem dX13_holds_108 : decode cX13_holds 108 = .ok (.aload_n 0, 1) := by decide +kernel
theorem dX13_holds_109 : decode cX13_holds 109 = .ok (.iload 4, 2) := by decide +kernel
theorem dX13_holds_111 : decode cX13_holds 111 = .ok (.iload_n 2, 1) := by decide +kernel
theorem dX13_holds_112 : decode cX13_holds 112 = .ok (.invokevirtual 454, 3) := by decide +kernel
theorem dX13_holds_115 : decode cX13_holds 115 = .ok (.ifCond .ne 7, 3) := by decide +kernel
theorem dX13_holds_118 : decode cX13_holds 118 = .ok (.iconst 1, 1) := by decide +kernel
theorem dX13_holds_119 : decode cX13_holds 119 = .ok (.goto 4, 3) := by decide +kernel
theorem dX13_holds_122 : decode cX13_holds 122 = .ok (.iconst 0, 1) := by decide +kernel
theorem dX13_holds_123 : decode cX13_holds 123 = .ok (.ireturn, 1) := by decide +kernel
theorem dX13_holds_124 : decode cX13_holds 124 = .ok (.aload_n 0, 1) := by decide +kernel
theorem dX13_holds_125 : decode cX13_holds 125 = .ok (.iload 4, 2) := by decide +kernel
theorem dX13_holds_127 : decode cX13_holds 127 = .ok (.iload_n 2, 1) := by decide +kernel
theorem dX13_holds_128 : decode cX13_holds 128 = .ok (.invokevirtual 454, 3) := by decide +kernel
theorem dX13_holds_131 : decode cX13_holds 131 = .ok (.ifCond .eq 17, 3) := by decide +kernel
theorem dX13_holds_134 : decode cX13_holds 134 = .ok (.aload_n 0, 1) := by decide +kernel
theorem dX13_holds_135 : decode cX13_holds 135 = .ok (.iload 5, 2) := by decide +kernel
theorem dX13_holds_137 : decode cX13_holds 137 = .ok (.iload_n 2, 1) := by decide +kernel
theorem dX13_holds_138 : decode cX13_holds 138 = .ok (.invokevirtual 454, 3) := by decide +kernel
theorem dX13_holds_141 : decode cX13_holds 141 = .ok (.ifCond .eq 7, 3) := by decide +kernel
theorem dX13_holds_144 : decode cX13_holds 144 = .ok (.iconst 1, 1) := by decide +kernel
theorem dX13_holds_145 : decode cX13_holds 145 = .ok (.goto 4, 3) := by decide +kernel
theorem dX13_holds_148 : decode cX13_holds 148 = .ok (.iconst 0, 1) := by decide +kernel
theorem dX13_holds_149 : decode cX13_holds 149 = .ok (.ireturn, 1) := by decide +kernel
theorem dX13_holds_150 : decode cX13_holds 150 = .ok (.aload_n 0, 1) := by decide +kernel
theorem dX13_holds_151 : decode cX13_holds 151 = .ok (.iload 4, 2) := by decide +kernel
theorem dX13_holds_153 : decode cX13_holds 153 = .ok (.iload_n 2, 1) := by decide +kernel
theorem dX13_holds_154 : decode cX13_holds 154 = .ok (.invokevirtual 454, 3) := by decide +kernel
theorem dX13_holds_157 : decode cX13_holds 157 = .ok (.ifCond .ne 13, 3) := by decide +kernel
theorem dX13_holds_160 : decode cX13_holds 160 = .ok (.aload_n 0, 1) := by decide +kernel
theorem dX13_holds_161 : decode cX13_holds 161 = .ok (.iload 5, 2) := by decide +kernel
theorem dX13_holds_163 : decode cX13_holds 163 = .ok (.iload_n 2, 1) := by decide +kernel
theorem dX13_holds_164 : decode cX13_holds 164 = .ok (.invokevirtual 454, 3) := by decide +kernel
theorem dX13_holds_167 : decode cX13_holds 167 = .ok (.ifCond .eq 7, 3) := by decide +kernel
theorem dX13_holds_170 : decode cX13_holds 170 = .ok (.iconst 1, 1) := by decide +kernel
theorem dX13_holds_171 : decode cX13_holds 171 = .ok (.goto 4, 3) := by decide +kernel
theorem dX13_holds_174 : decode cX13_holds 174 = .ok (.iconst 0, 1) := by decide +kernel
theorem dX13_holds_175 : decode cX13_holds 175 = .ok (.ireturn, 1) := by decide +kernel
theorem dX13_holds_176 : decode cX13_holds 176 = .ok (.aload_n 0, 1) := by decide +kernel
theorem dX13_holds_177 : decode cX13_holds 177 = .ok (.iload_n 2, 1) := by decide +kernel
theorem dX13_holds_178 : decode cX13_holds 178 = .ok (.invokevirtual 261, 3) := by decide +kernel
theorem dX13_holds_181 : decode cX13_holds 181 = .ok (.ireturn, 1) := by decide +kernel
theorem dX13_holds_182 : decode cX13_holds 182 = .ok (.aload_n 0, 1) := by decide +kernel
theorem dX13_holds_183 : decode cX13_holds 183 = .ok (.getfield 98, 3) := by decide +kernel
theorem dX13_holds_186 : decode cX13_holds 186 = .ok (.bipush 125, 2) := by decide +kernel
theorem dX13_holds_188 : decode cX13_holds 188 = .ok (.iload_n 2, 1) := by decide +kernel
theorem dX13_holds_189 : decode cX13_holds 189 = .ok (.iadd, 1) := by decide +kernel
theorem dX13_holds_190 : decode cX13_holds 190 = .ok (.iaload, 1) := by decide +kernel
theorem dX13_holds_191 : decode cX13_holds 191 = .ok (.ifCond .ne 7, 3) := by decide +kernel
theorem dX13_holds_194 : decode cX13_holds 194 = .ok (.iconst 1, 1) := by decide +kernel
theorem dX13_holds_195 : decode cX13_holds 195 = .ok (.goto 4, 3) := by decide +kernel
theorem dX13_holds_198 : decode cX13_holds 198 = .ok (.iconst 0, 1) := by decide +kernel
theorem dX13_holds_199 : decode cX13_holds 199 = .ok (.ireturn, 1) := by decide +kernel
theorem dX13_holds_200 : decode cX13_holds 200 = .ok (.aload_n 0, 1) := by decide +kernel
theorem dX13_holds_201 : decode cX13_holds 201 = .ok (.getfield 98, 3) := by decide +kernel
theorem dX13_holds_204 : decode cX13_holds 204 = .ok (.sipush 129, 3) := by decide +kernel
theorem dX13_holds_207 : decode cX13_holds 207 = .ok (.iload_n 2, 1) := by decide +kernel
theorem dX13_holds_208 : decode cX13_holds 208 = .ok (.iadd, 1) := by decide +kernel
theorem dX13_holds_209 : decode cX13_holds 209 = .ok (.iaload, 1) := by decide +kernel
theorem dX13_holds_210 : decode cX13_holds 210 = .ok (.iconst 1, 1) := by decide +kernel
theorem dX13_holds_211 : decode cX13_holds 211 = .ok (.if_icmp .ne 7, 3) := by decide +kernel
theorem dX13_holds_214 : decode cX13_holds 214 = .ok (.iconst 1, 1) := by decide +kernel
theorem dX13_holds_215 : decode cX13_holds 215 = .ok (.goto 4, 3) := by decide +kernel
theorem dX13_holds_218 : decode cX13_holds 218 = .ok (.iconst 0, 1) := by decide +kernel
theorem dX13_holds_219 : decode cX13_holds 219 = .ok (.ireturn, 1) := by decide +kernel
theorem dX13_holds_220 : decode cX13_holds 220 = .ok (.aload_n 0, 1) := by decide +kernel
theorem dX13_holds_221 : decode cX13_holds 221 = .ok (.aload_n 0, 1) := by decide +kernel
theorem dX13_holds_222 : decode cX13_holds 222 = .ok (.getfield 98, 3) := by decide +kernel
theorem dX13_holds_225 : decode cX13_holds 225 = .ok (.bipush 56, 2) := by decide +kernel
theorem dX13_holds_227 : decode cX13_holds 227 = .ok (.iload_n 2, 1) := by decide +kernel
theorem dX13_holds_228 : decode cX13_holds 228 = .ok (.iadd, 1) := by decide +kernel
theorem dX13_holds_229 : decode cX13_holds 229 = .ok (.iaload, 1) := by decide +kernel
theorem dX13_holds_230 : decode cX13_holds 230 = .ok (.aload_n 0, 1) := by decide +kernel
theorem dX13_holds_231 : decode cX13_holds 231 = .ok (.getfield 98, 3) := by decide +kernel
theorem dX13_holds_234 : decode cX13_holds 234 = .ok (.bipush 102, 2) := by decide +kernel
theorem dX13_holds_236 : decode cX13_holds 236 = .ok (.iaload, 1) := by decide +kernel
theorem dX13_holds_237 : decode cX13_holds 237 = .ok (.invokevirtual 234, 3) := by decide +kernel
theorem dX13_holds_240 : decode cX13_holds 240 = .ok (.ifCond .eq 30, 3) := by decide +kernel
theorem dX13_holds_243 : decode cX13_holds 243 = .ok (.aload_n 0, 1) := by decide +kernel
theorem dX13_holds_244 : decode cX13_holds 244 = .ok (.aload_n 0, 1) := by decide +kernel
theorem dX13_holds_245 : decode cX13_holds 245 = .ok (.getfield 98, 3) := by decide +kernel
theorem dX13_holds_248 : decode cX13_holds 248 = .ok (.bipush 60, 2) := by decide +kernel
theorem dX13_holds_250 : decode cX13_holds 250 = .ok (.iload_n 2, 1) := by decide +kernel
theorem dX13_holds_251 : decode cX13_holds 251 = .ok (.iadd, 1) := by decide +kernel
theorem dX13_holds_252 : decode cX13_holds 252 = .ok (.iaload, 1) := by decide +kernel
theorem dX13_holds_253 : decode cX13_holds 253 = .ok (.aload_n 0, 1) := by decide +kernel
theorem dX13_holds_254 : decode cX13_holds 254 = .ok (.getfield 98, 3) := by decide +kernel
theorem dX13_holds_257 : decode cX13_holds 257 = .ok (.bipush 102, 2) := by decide +kernel
theorem dX13_holds_259 : decode cX13_holds 259 = .ok (.iaload, 1) := by decide +kernel
theorem dX13_holds_260 : decode cX13_holds 260 = .ok (.invokevirtual 234, 3) := by decide +kernel
theorem dX13_holds_263 : decode cX13_holds 263 = .ok (.ifCond .eq 7, 3) := by decide +kernel
theorem dX13_holds_266 : decode cX13_holds 266 = .ok (.iconst 1, 1) := by decide +kernel
theorem dX13_holds_267 : decode cX13_holds 267 = .ok (.goto 4, 3) := by decide +kernel
theorem dX13_holds_270 : decode cX13_holds 270 = .ok (.iconst 0, 1) := by decide +kernel
theorem dX13_holds_271 : decode cX13_holds 271 = .ok (.ireturn, 1) := by decide +kernel
theorem dX13_holds_272 : decode cX13_holds 272 = .ok (.aload_n 0, 1) := by decide +kernel
theorem dX13_holds_273 : decode cX13_holds 273 = .ok (.getfield 98, 3) := by decide +kernel
theorem dX13_holds_276 : decode cX13_holds 276 = .ok (.bipush 56, 2) := by decide +kernel
theorem dX13_holds_278 : decode cX13_holds 278 = .ok (.iload_n 2, 1) := by decide +kernel
theorem dX13_holds_279 : decode cX13_holds 279 = .ok (.iadd, 1) := by decide +kernel
theorem dX13_holds_280 : decode cX13_holds 280 = .ok (.iaload, 1) := by decide +kernel
theorem dX13_holds_281 : decode cX13_holds 281 = .ok (.iload 4, 2) := by decide +kernel
theorem dX13_holds_283 : decode cX13_holds 283 = .ok (.if_icmp .eq 17, 3) := by decide +kernel
theorem dX13_holds_286 : decode cX13_holds 286 = .ok (.aload_n 0, 1) := by decide +kernel
theorem dX13_holds_287 : decode cX13_holds 287 = .ok (.getfield 98, 3) := by decide +kernel
theorem dX13_holds_290 : decode cX13_holds 290 = .ok (.bipush 60, 2) := by decide +kernel
theorem dX13_holds_292 : decode cX13_holds 292 = .ok (.iload_n 2, 1) := by decide +kernel
theorem dX13_holds_293 : decode cX13_holds 293 = .ok (.iadd, 1) := by decide +kernel
theorem dX13_holds_294 : decode cX13_holds 294 = .ok (.iaload, 1) := by decide +kernel
theorem dX13_holds_295 : decode cX13_holds 295 = .ok (.iload 4, 2) := by decide +kernel
theorem dX13_holds_297 : decode cX13_holds 297 = .ok (.if_icmp .ne 7, 3) := by decide +kernel
theorem dX13_holds_300 : decode cX13_holds 300 = .ok (.iconst 1, 1) := by decide +kernel
theorem dX13_holds_301 : decode cX13_holds 301 = .ok (.goto 4, 3) := by decide +kernel
theorem dX13_holds_304 : decode cX13_holds 304 = .ok (.iconst 0, 1) := by decide +kernel
theorem dX13_holds_305 : decode cX13_holds 305 = .ok (.ireturn, 1) := by decide +kernel
theorem dX13_holds_306 : decode cX13_holds 306 = .ok (.aload_n 0, 1) := by decide +kernel
theorem dX13_holds_307 : decode cX13_holds 307 = .ok (.getfield 98, 3) := by decide +kernel
theorem dX13_holds_310 : decode cX13_holds 310 = .ok (.iload_n 3, 1) := by decide +kernel
theorem dX13_holds_311 : decode cX13_holds 311 = .ok (.iaload, 1) := by decide +kernel
theorem dX13_holds_312 : decode cX13_holds 312 = .ok (.bipush 50, 2) := by decide +kernel
theorem dX13_holds_314 : decode cX13_holds 314 = .ok (.isub, 1) := by decide +kernel
theorem dX13_holds_315 : decode cX13_holds 315 = .ok (.istore 6, 2) := by decide +kernel
theorem dX13_holds_317 : decode cX13_holds 317 = .ok (.iload 6, 2) := by decide +kernel
theorem dX13_holds_319 : decode cX13_holds 319 = .ok (.bipush 25, 2) := by decide +kernel
theorem dX13_holds_321 : decode cX13_holds 321 = .ok (.if_icmp .ne 15, 3) := by decide +kernel
theorem dX13_holds_324 : decode cX13_holds 324 = .ok (.aload_n 0, 1) := by decide +kernel
theorem dX13_holds_325 : decode cX13_holds 325 = .ok (.getfield 98, 3) := by decide +kernel
theorem dX13_holds_328 : decode cX13_holds 328 = .ok (.bipush 125, 2) := by decide +kernel
theorem dX13_holds_330 : decode cX13_holds 330 = .ok (.iload_n 2, 1) := by decide +kernel
theorem dX13_holds_331 : decode cX13_holds 331 = .ok (.iadd, 1) := by decide +kernel
theorem dX13_holds_332 : decode cX13_holds 332 = .ok (.iaload, 1) := by decide +kernel
theorem dX13_holds_333 : decode cX13_holds 333 = .ok (.goto 43, 3) := by decide +kernel
theorem dX13_holds_336 : decode cX13_holds 336 = .ok (.iload 6, 2) := by decide +kernel
theorem dX13_holds_338 : decode cX13_holds 338 = .ok (.bipush 26, 2) := by decide +kernel
theorem dX13_holds_340 : decode cX13_holds 340 = .ok (.if_icmp .ne 15, 3) := by decide +kernel
theorem dX13_holds_343 : decode cX13_holds 343 = .ok (.aload_n 0, 1) := by decide +kernel
theorem dX13_holds_344 : decode cX13_holds 344 = .ok (.getfield 98, 3) := by decide +kernel
theorem dX13_holds_347 : decode cX13_holds 347 = .ok (.bipush 121, 2) := by decide +kernel
theorem dX13_holds_349 : decode cX13_holds 349 = .ok (.iload_n 2, 1) := by decide +kernel
theorem dX13_holds_350 : decode cX13_holds 350 = .ok (.iadd, 1) := by decide +kernel
theorem dX13_holds_351 : decode cX13_holds 351 = .ok (.iaload, 1) := by decide +kernel
theorem dX13_holds_352 : decode cX13_holds 352 = .ok (.goto 24, 3) := by decide +kernel
theorem dX13_holds_355 : decode cX13_holds 355 = .ok (.iload 6, 2) := by decide +kernel
theorem dX13_holds_357 : decode cX13_holds 357 = .ok (.bipush 27, 2) := by decide +kernel
theorem dX13_holds_359 : decode cX13_holds 359 = .ok (.if_icmp .ne 16, 3) := by decide +kernel
theorem dX13_holds_362 : decode cX13_holds 362 = .ok (.aload_n 0, 1) := by decide +kernel
theorem dX13_holds_363 : decode cX13_holds 363 = .ok (.getfield 98, 3) := by decide +kernel
theorem dX13_holds_366 : decode cX13_holds 366 = .ok (.sipush 137, 3) := by decide +kernel
theorem dX13_holds_369 : decode cX13_holds 369 = .ok (.iload_n 2, 1) := by decide +kernel
theorem dX13_holds_370 : decode cX13_holds 370 = .ok (.iadd, 1) := by decide +kernel
theorem dX13_holds_371 : decode cX13_holds 371 = .ok (.iaload, 1) := by decide +kernel
theorem dX13_holds_372 : decode cX13_holds 372 = .ok (.goto 4, 3) := by decide +kernel
theorem dX13_holds_375 : decode cX13_holds 375 = .ok (.iload_n 2, 1) := by decide +kernel
theorem dX13_holds_376 : decode cX13_holds 376 = .ok (.istore 7, 2) := by decide +kernel
theorem dX13_holds_378 : decode cX13_holds 378 = .ok (.aload_n 0, 1) := by decide +kernel
theorem dX13_holds_379 : decode cX13_holds 379 = .ok (.getfield 98, 3) := by decide +kernel
theorem dX13_holds_382 : decode cX13_holds 382 = .ok (.iload_n 3, 1) := by decide +kernel
theorem dX13_holds_383 : decode cX13_holds 383 = .ok (.iconst 3, 1) := by decide +kernel
theorem dX13_holds_384 : decode cX13_holds 384 = .ok (.iadd, 1) := by decide +kernel
theorem dX13_holds_385 : decode cX13_holds 385 = .ok (.iaload, 1) := by decide +kernel
theorem dX13_holds_386 : decode cX13_holds 386 = .ok (.bipush 60, 2) := by decide +kernel
theorem dX13_holds_388 : decode cX13_holds 388 = .ok (.if_icmp .ne 18, 3) := by decide +kernel
theorem dX13_holds_391 : decode cX13_holds 391 = .ok (.iload 7, 2) := by decide +kernel
theorem dX13_holds_393 : decode cX13_holds 393 = .ok (.iload 5, 2) := by decide +kernel
theorem dX13_holds_395 : decode cX13_holds 395 = .ok (.if_icmp .ge 7, 3) := by decide +kernel
theorem dX13_holds_398 : decode cX13_holds 398 = .ok (.iconst 1, 1) := by decide +kernel
theorem dX13_holds_399 : decode cX13_holds 399 = .ok (.goto 47, 3) := by decide +kernel
theorem dX13_holds_402 : decode cX13_holds 402 = .ok (.iconst 0, 1) := by decide +kernel
theorem dX13_holds_403 : decode cX13_holds 403 = .ok (.goto 43, 3) := by decide +kernel
theorem dX13_holds_406 : decode cX13_holds 406 = .ok (.aload_n 0, 1) := by decide +kernel
theorem dX13_holds_407 : decode cX13_holds 407 = .ok (.getfield 98, 3) := by decide +kernel
theorem dX13_holds_410 : decode cX13_holds 410 = .ok (.iload_n 3, 1) := by decide +kernel
theorem dX13_holds_411 : decode cX13_holds 411 = .ok (.iconst 3, 1) := by decide +kernel
theorem dX13_holds_412 : decode cX13_holds 412 = .ok (.iadd, 1) := by decide +kernel
theorem dX13_holds_413 : decode cX13_holds 413 = .ok (.iaload, 1) := by decide +kernel
theorem dX13_holds_414 : decode cX13_holds 414 = .ok (.bipush 61, 2) := by decide +kernel
theorem dX13_holds_416 : decode cX13_holds 416 = .ok (.if_icmp .ne 18, 3) := by decide +kernel
theorem dX13_holds_419 : decode cX13_holds 419 = .ok (.iload 7, 2) := by decide +kernel
theorem dX13_holds_421 : decode cX13_holds 421 = .ok (.iload 5, 2) := by decide +kernel
theorem dX13_holds_423 : decode cX13_holds 423 = .ok (.if_icmp .ne 7, 3) := by decide +kernel
theorem dX13_holds_426 : decode cX13_holds 426 = .ok (.iconst 1, 1) := by decide +kernel
theorem dX13_holds_427 : decode cX13_holds 427 = .ok (.goto 19, 3) := by decide +kernel
theorem dX13_holds_430 : decode cX13_holds 430 = .ok (.iconst 0, 1) := by decide +kernel
theorem dX13_holds_431 : decode cX13_holds 431 = .ok (.goto 15, 3) := by decide +kernel
theorem dX13_holds_434 : decode cX13_holds 434 = .ok (.iload 7, 2) := by decide +kernel
theorem dX13_holds_436 : decode cX13_holds 436 = .ok (.iload 5, 2) := by decide +kernel
theorem dX13_holds_438 : decode cX13_holds 438 = .ok (.if_icmp .le 7, 3) := by decide +kernel
theorem dX13_holds_441 : decode cX13_holds 441 = .ok (.iconst 1, 1) := by decide +kernel
theorem dX13_holds_442 : decode cX13_holds 442 = .ok (.goto 4, 3) := by decide +kernel
theorem dX13_holds_445 : decode cX13_holds 445 = .ok (.iconst 0, 1) := by decide +kernel
theorem dX13_holds_446 : decode cX13_holds 446 = .ok (.ireturn, 1) := by decide +kernel
theorem dX13_said_0 : decode cX13_said 0 = .ok (.aload_n 0, 1) := by decide +kernel
theorem dX13_said_1 : decode cX13_said 1 = .ok (.iconst 0, 1) := by decide +kernel
theorem dX13_said_2 : decode cX13_said 2 = .ok (.putfield 1, 3) := by decide +kernel
theorem dX13_said_5 : decode cX13_said 5 = .ok (.aload_n 0, 1) := by decide +kernel
theorem dX13_said_6 : decode cX13_said 6 = .ok (.getfield 98, 3) := by decide +kernel
theorem dX13_said_9 : decode cX13_said 9 = .ok (.sipush 141, 3) := by decide +kernel
theorem dX13_said_12 : decode cX13_said 12 = .ok (.iaload, 1) := by decide +kernel
theorem dX13_said_13 : decode cX13_said 13 = .ok (.ifCond .ne 5, 3) := by decide +kernel
theorem dX13_said_16 : decode cX13_said 16 = .ok (.iconst (-1), 1) := by decide +kernel
theorem dX13_said_17 : decode cX13_said 17 = .ok (.ireturn, 1) := by decide +kernel
theorem dX13_said_18 : decode cX13_said 18 = .ok (.iconst 0, 1) := by decide +kernel
theorem dX13_said_19 : decode cX13_said 19 = .ok (.istore_n 2, 1) := by decide +kernel
theorem dX13_said_20 : decode cX13_said 20 = .ok (.iconst 0, 1) := by decide +kernel
theorem dX13_said_21 : decode cX13_said 21 = .ok (.istore_n 3, 1) := by decide +kernel
theorem dX13_said_22 : decode cX13_said 22 = .ok (.iload_n 3, 1) := by decide +kernel
theorem dX13_said_23 : decode cX13_said 23 = .ok (.aload_n 0, 1) := by decide +kernel
theorem dX13_said_24 : decode cX13_said 24 = .ok (.getfield 98, 3) := by decide +kernel
theorem dX13_said_27 : decode cX13_said 27 = .ok (.iconst 1, 1) := by decide +kernel
theorem dX13_said_28 : decode cX13_said 28 = .ok (.iaload, 1) := by decide +kernel
theorem dX13_said_29 : decode cX13_said 29 = .ok (.if_icmp .ge 38, 3) := by decide +kernel
theorem dX13_said_32 : decode cX13_said 32 = .ok (.aload_n 0, 1) := by decide +kernel
theorem dX13_said_33 : decode cX13_said 33 = .ok (.aload_n 0, 1) := by decide +kernel
theorem dX13_said_34 : decode cX13_said 34 = .ok (.getfield 98, 3) := by decide +kernel
theorem dX13_said_37 : decode cX13_said 37 = .ok (.sipush 142, 3) := by decide +kernel
theorem dX13_said_40 : decode cX13_said 40 = .ok (.iaload, 1) := by decide +kernel
theorem dX13_said_41 : decode cX13_said 41 = .ok (.iload_n 3, 1) := by decide +kernel
theorem dX13_said_42 : decode cX13_said 42 = .ok (.invokevirtual 454, 3) := by decide +kernel
theorem dX13_said_45 : decode cX13_said 45 = .ok (.ifCond .ne 6, 3) := by decide +kernel
theorem dX13_said_48 : decode cX13_said 48 = .ok (.goto 13, 3) := by decide +kernel
theorem dX13_said_51 : decode cX13_said 51 = .ok (.iload_n 2, 1) := by decide +kernel
theorem dX13_said_52 : decode cX13_said 52 = .ok (.iload_n 1, 1) := by decide +kernel
theorem dX13_said_53 : decode cX13_said 53 = .ok (.if_icmp .ne 5, 3) := by decide +kernel
theorem dX13_said_56 : decode cX13_said 56 = .ok (.iload_n 3, 1) := by decide +kernel
theorem dX13_said_57 : decode cX13_said 57 = .ok (.ireturn, 1) := by decide +kernel
theorem dX13_said_58 : decode cX13_said 58 = .ok (.iinc 2 1, 3) := by decide +kernel
theorem dX13_said_61 : decode cX13_said 61 = .ok (.iinc 3 1, 3) := by decide +kernel
theorem dX13_said_64 : decode cX13_said 64 = .ok (.goto (-42), 3) := by decide +kernel
theorem dX13_said_67 : decode cX13_said 67 = .ok (.iload_n 1, 1) := by decide +kernel
theorem dX13_said_68 : decode cX13_said 68 = .ok (.iconst (-1), 1) := by decide +kernel
theorem dX13_said_69 : decode cX13_said 69 = .ok (.if_icmp .ne 7, 3) := by decide +kernel
theorem dX13_said_72 : decode cX13_said 72 = .ok (.iload_n 2, 1) := by decide +kernel
theorem dX13_said_73 : decode cX13_said 73 = .ok (.goto 4, 3) := by decide +kernel
theorem dX13_said_76 : decode cX13_said 76 = .ok (.iconst (-1), 1) := by decide +kernel
theorem dX13_said_77 : decode cX13_said 77 = .ok (.ireturn, 1) := by decide +kernel
theorem dX13_image_0 : decode cX13_image 0 = .ok (.aload_n 0, 1) := by decide +kernel
theorem dX13_image_1 : decode cX13_image 1 = .ok (.iconst 0, 1) := by decide +kernel
theorem dX13_image_2 : decode cX13_image 2 = .ok (.putfield 1, 3) := by decide +kernel
theorem dX13_image_5 : decode cX13_image 5 = .ok (.iload_n 1, 1) := by decide +kernel
theorem dX13_image_6 : decode cX13_image 6 = .ok (.iconst 0, 1) := by decide +kernel
theorem dX13_image_7 : decode cX13_image 7 = .ok (.iconst 1, 1) := by decide +kernel
theorem dX13_image_8 : decode cX13_image 8 = .ok (.invokestatic 75, 3) := by decide +kernel
theorem dX13_image_11 : decode cX13_image 11 = .ok (.ifCond .ne 5, 3) := by decide +kernel
theorem dX13_image_14 : decode cX13_image 14 = .ok (.iconst 0, 1) := by decide +kernel
theorem dX13_image_15 : decode cX13_image 15 = .ok (.ireturn, 1) := by decide +kernel
theorem dX13_image_16 : decode cX13_image 16 = .ok (.iconst 0, 1) := by decide +kernel
theorem dX13_image_17 : decode cX13_image 17 = .ok (.istore_n 2, 1) := by decide +kernel
theorem dX13_image_18 : decode cX13_image 18 = .ok (.iload_n 2, 1) := by decide +kernel
theorem dX13_image_19 : decode cX13_image 19 = .ok (.sipush 383, 3) := by decide +kernel
theorem dX13_image_22 : decode cX13_image 22 = .ok (.if_icmp .ge 27, 3) := by decide +kernel
theorem dX13_image_25 : decode cX13_image 25 = .ok (.aload_n 0, 1) := by decide +kernel
theorem dX13_image_26 : decode cX13_image 26 = .ok (.getfield 104, 3) := by decide +kernel
theorem dX13_image_29 : decode cX13_image 29 = .ok (.sipush 383, 3) := by decide +kernel
theorem dX13_image_32 : decode cX13_image 32 = .ok (.iload_n 1, 1) := by decide +kernel
theorem dX13_image_33 : decode cX13_image 33 = .ok (.imul, 1) := by decide +kernel
theorem dX13_image_34 : decode cX13_image 34 = .ok (.iload_n 2, 1) := by decide +kernel
theorem dX13_image_35 : decode cX13_image 35 = .ok (.iadd, 1) := by decide +kernel
theorem dX13_image_36 : decode cX13_image 36 = .ok (.aload_n 0, 1) := by decide +kernel
theorem dX13_image_37 : decode cX13_image 37 = .ok (.getfield 98, 3) := by decide +kernel
theorem dX13_image_40 : decode cX13_image 40 = .ok (.iload_n 2, 1) := by decide +kernel
theorem dX13_image_41 : decode cX13_image 41 = .ok (.iaload, 1) := by decide +kernel
theorem dX13_image_42 : decode cX13_image 42 = .ok (.iastore, 1) := by decide +kernel
theorem dX13_image_43 : decode cX13_image 43 = .ok (.iinc 2 1, 3) := by decide +kernel
theorem dX13_image_46 : decode cX13_image 46 = .ok (.goto (-28), 3) := by decide +kernel
theorem dX13_image_49 : decode cX13_image 49 = .ok (.iconst 0, 1) := by decide +kernel
theorem dX13_image_50 : decode cX13_image 50 = .ok (.istore_n 2, 1) := by decide +kernel
theorem dX13_image_51 : decode cX13_image 51 = .ok (.iload_n 2, 1) := by decide +kernel
theorem dX13_image_52 : decode cX13_image 52 = .ok (.bipush 18, 2) := by decide +kernel
theorem dX13_image_54 : decode cX13_image 54 = .ok (.if_icmp .ge 26, 3) := by decide +kernel
theorem dX13_image_57 : decode cX13_image 57 = .ok (.aload_n 0, 1) := by decide +kernel
theorem dX13_image_58 : decode cX13_image 58 = .ok (.getfield 120, 3) := by decide +kernel
theorem dX13_image_61 : decode cX13_image 61 = .ok (.bipush 18, 2) := by decide +kernel
theorem dX13_image_63 : decode cX13_image 63 = .ok (.iload_n 1, 1) := by decide +kernel
theorem dX13_image_64 : decode cX13_image 64 = .ok (.imul, 1) := by decide +kernel
theorem dX13_image_65 : decode cX13_image 65 = .ok (.iload_n 2, 1) := by decide +kernel
theorem dX13_image_66 : decode cX13_image 66 = .ok (.iadd, 1) := by decide +kernel
theorem dX13_image_67 : decode cX13_image 67 = .ok (.aload_n 0, 1) := by decide +kernel
theorem dX13_image_68 : decode cX13_image 68 = .ok (.getfield 113, 3) := by decide +kernel
theorem dX13_image_71 : decode cX13_image 71 = .ok (.iload_n 2, 1) := by decide +kernel
theorem dX13_image_72 : decode cX13_image 72 = .ok (.laload, 1) := by decide +kernel
theorem dX13_image_73 : decode cX13_image 73 = .ok (.lastore, 1) := by decide +kernel
theorem dX13_image_74 : decode cX13_image 74 = .ok (.iinc 2 1, 3) := by decide +kernel
theorem dX13_image_77 : decode cX13_image 77 = .ok (.goto (-26), 3) := by decide +kernel
theorem dX13_image_80 : decode cX13_image 80 = .ok (.aload_n 0, 1) := by decide +kernel
theorem dX13_image_81 : decode cX13_image 81 = .ok (.getfield 123, 3) := by decide +kernel
theorem dX13_image_84 : decode cX13_image 84 = .ok (.iload_n 1, 1) := by decide +kernel
theorem dX13_image_85 : decode cX13_image 85 = .ok (.iconst 1, 1) := by decide +kernel
theorem dX13_image_86 : decode cX13_image 86 = .ok (.bastore, 1) := by decide +kernel
theorem dX13_image_87 : decode cX13_image 87 = .ok (.iconst 1, 1) := by decide +kernel
theorem dX13_image_88 : decode cX13_image 88 = .ok (.ireturn, 1) := by decide +kernel
theorem dX13_restore_0 : decode cX13_restore 0 = .ok (.aload_n 0, 1) := by decide +kernel
theorem dX13_restore_1 : decode cX13_restore 1 = .ok (.iconst 0, 1) := by decide +kernel
theorem dX13_restore_2 : decode cX13_restore 2 = .ok (.putfield 1, 3) := by decide +kernel
theorem dX13_restore_5 : decode cX13_restore 5 = .ok (.iload_n 1, 1) := by decide +kernel
theorem dX13_restore_6 : decode cX13_restore 6 = .ok (.iconst 0, 1) := by decide +kernel
theorem dX13_restore_7 : decode cX13_restore 7 = .ok (.iconst 1, 1) := by decide +kernel
theorem dX13_restore_8 : decode cX13_restore 8 = .ok (.invokestatic 75, 3) := by decide +kernel
theorem dX13_restore_11 : decode cX13_restore 11 = .ok (.ifCond .eq 12, 3) := by decide +kernel
theorem dX13_restore_14 : decode cX13_restore 14 = .ok (.aload_n 0, 1) := by decide +kernel
theorem dX13_restore_15 : decode cX13_restore 15 = .ok (.getfield 123, 3) := by decide +kernel
theorem dX13_restore_18 : decode cX13_restore 18 = .ok (.iload_n 1, 1) := by decide +kernel
theorem dX13_restore_19 : decode cX13_restore 19 = .ok (.baload, 1) := by decide +kernel
theorem dX13_restore_20 : decode cX13_restore 20 = .ok (.ifCond .ne 5, 3) := by decide +kernel
theorem dX13_restore_23 : decode cX13_restore 23 = .ok (.iconst 0, 1) := by decide +kernel
theorem dX13_restore_24 : decode cX13_restore 24 = .ok (.ireturn, 1) := by decide +kernel
theorem dX13_restore_25 : decode cX13_restore 25 = .ok (.iconst 0, 1) := by decide +kernel
theorem dX13_restore_26 : decode cX13_restore 26 = .ok (.istore_n 2, 1) := by decide +kernel
theorem dX13_restore_27 : decode cX13_restore 27 = .ok (.iload_n 2, 1) := by decide +kernel
theorem dX13_restore_28 : decode cX13_restore 28 = .ok (.sipush 383, 3) := by decide +kernel
theorem dX13_restore_31 : decode cX13_restore 31 = .ok (.if_icmp .ge 27, 3) := by decide +kernel
theorem dX13_restore_34 : decode cX13_restore 34 = .ok (.aload_n 0, 1) := by decide +kernel
theorem dX13_restore_35 : decode cX13_restore 35 = .ok (.getfield 98, 3) := by decide +kernel
theorem dX13_restore_38 : decode cX13_restore 38 = .ok (.iload_n 2, 1) := by decide +kernel
theorem dX13_restore_39 : decode cX13_restore 39 = .ok (.aload_n 0, 1) := by decide +kernel
theorem dX13_restore_40 : decode cX13_restore 40 = .ok (.getfield 104, 3) := by decide +kernel
theorem dX13_restore_43 : decode cX13_restore 43 = .ok (.sipush 383, 3) := by decide +kernel
theorem dX13_restore_46 : decode cX13_restore 46 = .ok (.iload_n 1, 1) := by decide +kernel
theorem dX13_restore_47 : decode cX13_restore 47 = .ok (.imul, 1) := by decide +kernel
theorem dX13_restore_48 : decode cX13_restore 48 = .ok (.iload_n 2, 1) := by decide +kernel
theorem dX13_restore_49 : decode cX13_restore 49 = .ok (.iadd, 1) := by decide +kernel
theorem dX13_restore_50 : decode cX13_restore 50 = .ok (.iaload, 1) := by decide +kernel
theorem dX13_restore_51 : decode cX13_restore 51 = .ok (.iastore, 1) := by decide +kernel
theorem dX13_restore_52 : decode cX13_restore 52 = .ok (.iinc 2 1, 3) := by decide +kernel
theorem dX13_restore_55 : decode cX13_restore 55 = .ok (.goto (-28), 3) := by decide +kernel
theorem dX13_restore_58 : decode cX13_restore 58 = .ok (.iconst 0, 1) := by decide +kernel
theorem dX13_restore_59 : decode cX13_restore 59 = .ok (.istore_n 2, 1) := by decide +kernel
theorem dX13_restore_60 : decode cX13_restore 60 = .ok (.iload_n 2, 1) := by decide +kernel
theorem dX13_restore_61 : decode cX13_restore 61 = .ok (.bipush 18, 2) := by decide +kernel
theorem dX13_restore_63 : decode cX13_restore 63 = .ok (.if_icmp .ge 26, 3) := by decide +kernel
theorem dX13_restore_66 : decode cX13_restore 66 = .ok (.aload_n 0, 1) := by decide +kernel
theorem dX13_restore_67 : decode cX13_restore 67 = .ok (.getfield 113, 3) := by decide +kernel
theorem dX13_restore_70 : decode cX13_restore 70 = .ok (.iload_n 2, 1) := by decide +kernel
theorem dX13_restore_71 : decode cX13_restore 71 = .ok (.aload_n 0, 1) := by decide +kernel
theorem dX13_restore_72 : decode cX13_restore 72 = .ok (.getfield 120, 3) := by decide +kernel
theorem dX13_restore_75 : decode cX13_restore 75 = .ok (.bipush 18, 2) := by decide +kernel
theorem dX13_restore_77 : decode cX13_restore 77 = .ok (.iload_n 1, 1) := by decide +kernel
theorem dX13_restore_78 : decode cX13_restore 78 = .ok (.imul, 1) := by decide +kernel
theorem dX13_restore_79 : decode cX13_restore 79 = .ok (.iload_n 2, 1) := by decide +kernel
theorem dX13_restore_80 : decode cX13_restore 80 = .ok (.iadd, 1) := by decide +kernel
theorem dX13_restore_81 : decode cX13_restore 81 = .ok (.laload, 1) := by decide +kernel
theorem dX13_restore_82 : decode cX13_restore 82 = .ok (.lastore, 1) := by decide +kernel
theorem dX13_restore_83 : decode cX13_restore 83 = .ok (.iinc 2 1, 3) := by decide +kernel
theorem dX13_restore_86 : decode cX13_restore 86 = .ok (.goto (-26), 3) := by decide +kernel
theorem dX13_restore_89 : decode cX13_restore 89 = .ok (.aload_n 0, 1) := by decide +kernel
theorem dX13_restore_90 : decode cX13_restore 90 = .ok (.iconst 0, 1) := by decide +kernel
theorem dX13_restore_91 : decode cX13_restore 91 = .ok (.putfield 221, 3) := by decide +kernel
theorem dX13_restore_94 : decode cX13_restore 94 = .ok (.iconst 1, 1) := by decide +kernel
theorem dX13_restore_95 : decode cX13_restore 95 = .ok (.ireturn, 1) := by decide +kernel
theorem dX13_count_0 : decode cX13_count 0 = .ok (.aload_n 0, 1) := by decide +kernel
theorem dX13_count_1 : decode cX13_count 1 = .ok (.iconst 0, 1) := by decide +kernel
theorem dX13_count_2 : decode cX13_count 2 = .ok (.putfield 1, 3) := by decide +kernel
theorem dX13_count_5 : decode cX13_count 5 = .ok (.iload_n 1, 1) := by decide +kernel
theorem dX13_count_6 : decode cX13_count 6 = .ok (.tableswitch 113 0 8 #[50, 57, 64, 71, 78, 85, 92, 100, 108], 50) := by decide +kernel
theorem dX13_count_56 : decode cX13_count 56 = .ok (.aload_n 0, 1) := by decide +kernel
theorem dX13_count_57 : decode cX13_count 57 = .ok (.getfield 98, 3) := by decide +kernel
theorem dX13_count_60 : decode cX13_count 60 = .ok (.iconst 0, 1) := by decide +kernel
theorem dX13_count_61 : decode cX13_count 61 = .ok (.iaload, 1) := by decide +kernel
theorem dX13_count_62 : decode cX13_count 62 = .ok (.ireturn, 1) := by decide +kernel
theorem dX13_count_63 : decode cX13_count 63 = .ok (.aload_n 0, 1) := by decide +kernel
theorem dX13_count_64 : decode cX13_count 64 = .ok (.getfield 98, 3) := by decide +kernel
theorem dX13_count_67 : decode cX13_count 67 = .ok (.iconst 1, 1) := by decide +kernel
theorem dX13_count_68 : decode cX13_count 68 = .ok (.iaload, 1) := by decide +kernel
theorem dX13_count_69 : decode cX13_count 69 = .ok (.ireturn, 1) := by decide +kernel
theorem dX13_count_70 : decode cX13_count 70 = .ok (.aload_n 0, 1) := by decide +kernel
theorem dX13_count_71 : decode cX13_count 71 = .ok (.getfield 98, 3) := by decide +kernel
theorem dX13_count_74 : decode cX13_count 74 = .ok (.iconst 2, 1) := by decide +kernel
theorem dX13_count_75 : decode cX13_count 75 = .ok (.iaload, 1) := by decide +kernel
theorem dX13_count_76 : decode cX13_count 76 = .ok (.ireturn, 1) := by decide +kernel
theorem dX13_count_77 : decode cX13_count 77 = .ok (.aload_n 0, 1) := by decide +kernel
theorem dX13_count_78 : decode cX13_count 78 = .ok (.getfield 98, 3) := by decide +kernel
theorem dX13_count_81 : decode cX13_count 81 = .ok (.iconst 3, 1) := by decide +kernel
theorem dX13_count_82 : decode cX13_count 82 = .ok (.iaload, 1) := by decide +kernel
theorem dX13_count_83 : decode cX13_count 83 = .ok (.ireturn, 1) := by decide +kernel
theorem dX13_count_84 : decode cX13_count 84 = .ok (.aload_n 0, 1) := by decide +kernel
theorem dX13_count_85 : decode cX13_count 85 = .ok (.getfield 98, 3) := by decide +kernel
theorem dX13_count_88 : decode cX13_count 88 = .ok (.iconst 4, 1) := by decide +kernel
theorem dX13_count_89 : decode cX13_count 89 = .ok (.iaload, 1) := by decide +kernel
theorem dX13_count_90 : decode cX13_count 90 = .ok (.ireturn, 1) := by decide +kernel
theorem dX13_count_91 : decode cX13_count 91 = .ok (.aload_n 0, 1) := by decide +kernel
theorem dX13_count_92 : decode cX13_count 92 = .ok (.getfield 98, 3) := by decide +kernel
theorem dX13_count_95 : decode cX13_count 95 = .ok (.iconst 5, 1) := by decide +kernel
theorem dX13_count_96 : decode cX13_count 96 = .ok (.iaload, 1) := by decide +kernel
theorem dX13_count_97 : decode cX13_count 97 = .ok (.ireturn, 1) := by decide +kernel
theorem dX13_count_98 : decode cX13_count 98 = .ok (.aload_n 0, 1) := by decide +kernel
theorem dX13_count_99 : decode cX13_count 99 = .ok (.getfield 98, 3) := by decide +kernel
theorem dX13_count_102 : decode cX13_count 102 = .ok (.bipush 6, 2) := by decide +kernel
theorem dX13_count_104 : decode cX13_count 104 = .ok (.iaload, 1) := by decide +kernel
theorem dX13_count_105 : decode cX13_count 105 = .ok (.ireturn, 1) := by decide +kernel
theorem dX13_count_106 : decode cX13_count 106 = .ok (.aload_n 0, 1) := by decide +kernel
theorem dX13_count_107 : decode cX13_count 107 = .ok (.getfield 98, 3) := by decide +kernel
theorem dX13_count_110 : decode cX13_count 110 = .ok (.bipush 7, 2) := by decide +kernel
theorem dX13_count_112 : decode cX13_count 112 = .ok (.iaload, 1) := by decide +kernel
theorem dX13_count_113 : decode cX13_count 113 = .ok (.ireturn, 1) := by decide +kernel
theorem dX13_count_114 : decode cX13_count 114 = .ok (.aload_n 0, 1) := by decide +kernel
theorem dX13_count_115 : decode cX13_count 115 = .ok (.getfield 11, 3) := by decide +kernel
theorem dX13_count_118 : decode cX13_count 118 = .ok (.ireturn, 1) := by decide +kernel
theorem dX13_count_119 : decode cX13_count 119 = .ok (.iconst (-1), 1) := by decide +kernel
theorem dX13_count_120 : decode cX13_count 120 = .ok (.ireturn, 1) := by decide +kernel
