/-! The classes' tables (printed rows), their numbers, the kinds of their fields. -/
def RJ4 : String := "java/lang/StringBuilder"
def TJ4 : u_T := fun k => match k with
  | 0 => ("java/lang/AbstractStringBuilder", "value", "[B", false)
  | 1 => ("java/lang/AbstractStringBuilder", "coder", "B", false)
  | 2 => ("java/lang/AbstractStringBuilder", "maybeLatin1", "Z", false)
  | _ => ("java/lang/AbstractStringBuilder", "count", "I", false)
def tyJ4 : Nat → FieldType := fun k => match k with
  | 0 => .array .byte
  | 1 => .byte
  | 2 => .boolean
  | _ => .int
theorem nmJ4 : ∀ a, a < 4 → ∀ b, b < 4 → a ≠ b → (TJ4 a).2.1 ≠ (TJ4 b).2.1 := by decide +kernel
theorem tyJ4_ok : ∀ k, k < 4 → parseFieldDescriptor (TJ4 k).2.2.1 = some (tyJ4 k) := by decide +kernel
def RX1 : String := "GlassVows$Forecast"
def TX1 : u_T := fun k => match k with
  | 0 => ("GlassVows$Forecast", "parish", "LGlassVows$Parish;", true)
  | 1 => ("GlassVows$Forecast", "life", "LGlassVows$Life;", true)
  | 2 => ("GlassVows$Forecast", "runs", "[I", true)
  | 3 => ("GlassVows$Forecast", "moods", "[I", true)
  | 4 => ("GlassVows$Forecast", "which", "I", false)
  | 5 => ("GlassVows$Forecast", "mostChoice", "I", false)
  | 6 => ("GlassVows$Forecast", "choiceSum", "I", false)
  | 7 => ("GlassVows$Forecast", "lastTurner", "I", false)
  | _ => ("GlassVows$Forecast", "lastTurnHour", "I", false)
def tyX1 : Nat → FieldType := fun k => match k with
  | 0 => .object "GlassVows$Parish"
  | 1 => .object "GlassVows$Life"
  | 2 => .array .int
  | 3 => .array .int
  | 4 => .int
  | 5 => .int
  | 6 => .int
  | 7 => .int
  | _ => .int
theorem nmX1 : ∀ a, a < 9 → ∀ b, b < 9 → a ≠ b → (TX1 a).2.1 ≠ (TX1 b).2.1 := by decide +kernel
theorem tyX1_ok : ∀ k, k < 9 → parseFieldDescriptor (TX1 k).2.2.1 = some (tyX1 k) := by decide +kernel
def RX2 : String := "GlassVows$Goods"
def TX2 : u_T := fun k => match k with
  | 0 => ("GlassVows$Goods", "names", "[J", true)
  | 1 => ("GlassVows$Goods", "ofGlass", "[I", true)
  | 2 => ("GlassVows$Goods", "toFirst", "[I", true)
  | 3 => ("GlassVows$Goods", "toSecond", "[I", true)
  | _ => ("GlassVows$Goods", "size", "I", false)
def tyX2 : Nat → FieldType := fun k => match k with
  | 0 => .array .long
  | 1 => .array .int
  | 2 => .array .int
  | 3 => .array .int
  | _ => .int
theorem nmX2 : ∀ a, a < 5 → ∀ b, b < 5 → a ≠ b → (TX2 a).2.1 ≠ (TX2 b).2.1 := by decide +kernel
theorem tyX2_ok : ∀ k, k < 5 → parseFieldDescriptor (TX2 k).2.2.1 = some (tyX2 k) := by decide +kernel
def RX3 : String := "GlassVows$Life"
def TX3 : u_T := fun k => match k with
  | 0 => ("GlassVows$Life", "parish", "LGlassVows$Parish;", true)
  | 1 => ("GlassVows$Life", "hour", "I", false)
  | 2 => ("GlassVows$Life", "lapsed", "I", false)
  | 3 => ("GlassVows$Life", "woken", "I", false)
  | 4 => ("GlassVows$Life", "fond", "[I", true)
  | 5 => ("GlassVows$Life", "turns", "[I", true)
  | 6 => ("GlassVows$Life", "left", "[I", true)
  | 7 => ("GlassVows$Life", "tilted", "[I", true)
  | 8 => ("GlassVows$Life", "neck", "[I", true)
  | 9 => ("GlassVows$Life", "waited", "[I", true)
  | _ => ("GlassVows$Life", "turned", "[I", true)
def tyX3 : Nat → FieldType := fun k => match k with
  | 0 => .object "GlassVows$Parish"
  | 1 => .int
  | 2 => .int
  | 3 => .int
  | 4 => .array .int
  | 5 => .array .int
  | 6 => .array .int
  | 7 => .array .int
  | 8 => .array .int
  | 9 => .array .int
  | _ => .array .int
theorem nmX3 : ∀ a, a < 11 → ∀ b, b < 11 → a ≠ b → (TX3 a).2.1 ≠ (TX3 b).2.1 := by decide +kernel
theorem tyX3_ok : ∀ k, k < 11 → parseFieldDescriptor (TX3 k).2.2.1 = some (tyX3 k) := by decide +kernel
def RX4 : String := "GlassVows$Parish"
def TX4 : u_T := fun k => match k with
  | 0 => ("GlassVows$Parish", "personNames", "[J", true)
  | 1 => ("GlassVows$Parish", "from", "[I", true)
  | 2 => ("GlassVows$Parish", "to", "[I", true)
  | 3 => ("GlassVows$Parish", "fondAtFirst", "[I", true)
  | 4 => ("GlassVows$Parish", "warms", "[I", true)
  | 5 => ("GlassVows$Parish", "cools", "[I", true)
  | 6 => ("GlassVows$Parish", "persons", "I", false)
  | 7 => ("GlassVows$Parish", "glassNames", "[J", true)
  | 8 => ("GlassVows$Parish", "first", "[I", true)
  | 9 => ("GlassVows$Parish", "second", "[I", true)
  | 10 => ("GlassVows$Parish", "grains", "[I", true)
  | 11 => ("GlassVows$Parish", "neckAtFirst", "[I", true)
  | 12 => ("GlassVows$Parish", "glasses", "I", false)
  | 13 => ("GlassVows$Parish", "damp", "[I", true)
  | 14 => ("GlassVows$Parish", "damps", "I", false)
  | 15 => ("GlassVows$Parish", "goods", "LGlassVows$Goods;", true)
  | 16 => ("GlassVows$Parish", "grace", "I", false)
  | 17 => ("GlassVows$Parish", "wish", "I", false)
  | 18 => ("GlassVows$Parish", "early", "Z", false)
  | _ => ("GlassVows$Parish", "level", "Z", false)
def tyX4 : Nat → FieldType := fun k => match k with
  | 0 => .array .long
  | 1 => .array .int
  | 2 => .array .int
  | 3 => .array .int
  | 4 => .array .int
  | 5 => .array .int
  | 6 => .int
  | 7 => .array .long
  | 8 => .array .int
  | 9 => .array .int
  | 10 => .array .int
  | 11 => .array .int
  | 12 => .int
  | 13 => .array .int
  | 14 => .int
  | 15 => .object "GlassVows$Goods"
  | 16 => .int
  | 17 => .int
  | 18 => .boolean
  | _ => .boolean
theorem nmX4 : ∀ a, a < 20 → ∀ b, b < 20 → a ≠ b → (TX4 a).2.1 ≠ (TX4 b).2.1 := by decide +kernel
theorem tyX4_ok : ∀ k, k < 20 → parseFieldDescriptor (TX4 k).2.2.1 = some (tyX4 k) := by decide +kernel
def RX5 : String := "GlassVows$ParishReader"
def TX5 : u_T := fun k => match k with
  | 0 => ("GlassVows$ParishReader", "tape", "LGlassVows$Tape;", true)
  | 1 => ("GlassVows$ParishReader", "draft", "LGlassVows$Parish;", true)
  | 2 => ("GlassVows$ParishReader", "isGraceTold", "Z", false)
  | _ => ("GlassVows$ParishReader", "isWishTold", "Z", false)
def tyX5 : Nat → FieldType := fun k => match k with
  | 0 => .object "GlassVows$Tape"
  | 1 => .object "GlassVows$Parish"
  | 2 => .boolean
  | _ => .boolean
theorem nmX5 : ∀ a, a < 4 → ∀ b, b < 4 → a ≠ b → (TX5 a).2.1 ≠ (TX5 b).2.1 := by decide +kernel
theorem tyX5_ok : ∀ k, k < 4 → parseFieldDescriptor (TX5 k).2.2.1 = some (tyX5 k) := by decide +kernel
def RX6 : String := "GlassVows$Roll"
def TX6 : u_T := fun k => match k with
  | 0 => ("GlassVows$Roll", "tape", "LGlassVows$Tape;", true)
  | 1 => ("GlassVows$Roll", "parish", "LGlassVows$Parish;", true)
  | 2 => ("GlassVows$Roll", "acts", "[I", true)
  | 3 => ("GlassVows$Roll", "whos", "[I", true)
  | 4 => ("GlassVows$Roll", "numbers", "[I", true)
  | 5 => ("GlassVows$Roll", "lines", "I", false)
  | 6 => ("GlassVows$Roll", "isJudged", "Z", false)
  | 7 => ("GlassVows$Roll", "why", "I", false)
  | 8 => ("GlassVows$Roll", "rightLines", "I", false)
  | 9 => ("GlassVows$Roll", "hourThen", "I", false)
  | _ => ("GlassVows$Roll", "lapsedThen", "I", false)
def tyX6 : Nat → FieldType := fun k => match k with
  | 0 => .object "GlassVows$Tape"
  | 1 => .object "GlassVows$Parish"
  | 2 => .array .int
  | 3 => .array .int
  | 4 => .array .int
  | 5 => .int
  | 6 => .boolean
  | 7 => .int
  | 8 => .int
  | 9 => .int
  | _ => .int
theorem nmX6 : ∀ a, a < 11 → ∀ b, b < 11 → a ≠ b → (TX6 a).2.1 ≠ (TX6 b).2.1 := by decide +kernel
theorem tyX6_ok : ∀ k, k < 11 → parseFieldDescriptor (TX6 k).2.2.1 = some (tyX6 k) := by decide +kernel
def RX7 : String := "GlassVows$Sentence"
def TX7 : u_T := fun k => match k with
  | 0 => ("GlassVows$Sentence", "steps", "[LGlassVows$Word;", true)
  | 1 => ("GlassVows$Sentence", "signs", "[I", true)
  | 2 => ("GlassVows$Sentence", "values", "[I", true)
  | 3 => ("GlassVows$Sentence", "size", "I", false)
  | _ => ("GlassVows$Sentence", "ones", "I", false)
def tyX7 : Nat → FieldType := fun k => match k with
  | 0 => .array (.object "GlassVows$Word")
  | 1 => .array .int
  | 2 => .array .int
  | 3 => .int
  | _ => .int
theorem nmX7 : ∀ a, a < 5 → ∀ b, b < 5 → a ≠ b → (TX7 a).2.1 ≠ (TX7 b).2.1 := by decide +kernel
theorem tyX7_ok : ∀ k, k < 5 → parseFieldDescriptor (TX7 k).2.2.1 = some (tyX7 k) := by decide +kernel
def RX8 : String := "GlassVows$Tape"
def TX8 : u_T := fun k => match k with
  | 0 => ("GlassVows$Tape", "bytes", "[B", true)
  | 1 => ("GlassVows$Tape", "size", "I", false)
  | 2 => ("GlassVows$Tape", "limit", "I", false)
  | 3 => ("GlassVows$Tape", "at", "I", false)
  | 4 => ("GlassVows$Tape", "kind", "I", false)
  | 5 => ("GlassVows$Tape", "place", "I", false)
  | 6 => ("GlassVows$Tape", "number", "I", false)
  | 7 => ("GlassVows$Tape", "code", "J", false)
  | 8 => ("GlassVows$Tape", "word", "LGlassVows$Word;", false)
  | 9 => ("GlassVows$Tape", "fault", "I", false)
  | _ => ("GlassVows$Tape", "faultPlace", "I", false)
def tyX8 : Nat → FieldType := fun k => match k with
  | 0 => .array .byte
  | 1 => .int
  | 2 => .int
  | 3 => .int
  | 4 => .int
  | 5 => .int
  | 6 => .int
  | 7 => .long
  | 8 => .object "GlassVows$Word"
  | 9 => .int
  | _ => .int
theorem nmX8 : ∀ a, a < 11 → ∀ b, b < 11 → a ≠ b → (TX8 a).2.1 ≠ (TX8 b).2.1 := by decide +kernel
theorem tyX8_ok : ∀ k, k < 11 → parseFieldDescriptor (TX8 k).2.2.1 = some (tyX8 k) := by decide +kernel
def RX9 : String := "GlassVows$Undo"
def TX9 : u_T := fun k => match k with
  | 0 => ("GlassVows$Undo", "kept", "[LGlassVows$Life;", true)
  | _ => ("GlassVows$Undo", "size", "I", false)
def tyX9 : Nat → FieldType := fun k => match k with
  | 0 => .array (.object "GlassVows$Life")
  | _ => .int
theorem nmX9 : ∀ a, a < 2 → ∀ b, b < 2 → a ≠ b → (TX9 a).2.1 ≠ (TX9 b).2.1 := by decide +kernel
theorem tyX9_ok : ∀ k, k < 2 → parseFieldDescriptor (TX9 k).2.2.1 = some (tyX9 k) := by decide +kernel
def RX10 : String := "GlassVows$Watch"
def TX10 : u_T := fun k => match k with
  | 0 => ("GlassVows$Watch", "outlook", "LGlassVows$Forecast;", true)
  | 1 => ("GlassVows$Watch", "fewest", "[I", true)
  | 2 => ("GlassVows$Watch", "afterTurn", "[I", true)
  | 3 => ("GlassVows$Watch", "wakings", "[I", true)
  | 4 => ("GlassVows$Watch", "size", "I", false)
  | _ => ("GlassVows$Watch", "span", "I", false)
def tyX10 : Nat → FieldType := fun k => match k with
  | 0 => .object "GlassVows$Forecast"
  | 1 => .array .int
  | 2 => .array .int
  | 3 => .array .int
  | 4 => .int
  | _ => .int
theorem nmX10 : ∀ a, a < 6 → ∀ b, b < 6 → a ≠ b → (TX10 a).2.1 ≠ (TX10 b).2.1 := by decide +kernel
theorem tyX10_ok : ∀ k, k < 6 → parseFieldDescriptor (TX10 k).2.2.1 = some (tyX10 k) := by decide +kernel
def RX12 : String := "GlassVows"
def TX12 : u_T := fun k => match k with
  | 0 => ("GlassVows", "tape", "LGlassVows$Tape;", true)
  | 1 => ("GlassVows", "parish", "LGlassVows$Parish;", true)
  | 2 => ("GlassVows", "draft", "LGlassVows$Parish;", true)
  | 3 => ("GlassVows", "reader", "LGlassVows$ParishReader;", true)
  | 4 => ("GlassVows", "life", "LGlassVows$Life;", true)
  | 5 => ("GlassVows", "trial", "LGlassVows$Life;", true)
  | 6 => ("GlassVows", "past", "LGlassVows$Undo;", true)
  | 7 => ("GlassVows", "outlook", "LGlassVows$Forecast;", true)
  | 8 => ("GlassVows", "vigil", "LGlassVows$Watch;", true)
  | 9 => ("GlassVows", "ledger", "LGlassVows$Roll;", true)
  | 10 => ("GlassVows", "saying", "LGlassVows$Sentence;", true)
  | 11 => ("GlassVows", "newSaying", "LGlassVows$Sentence;", true)
  | 12 => ("GlassVows", "keptParish", "[LGlassVows$Parish;", true)
  | 13 => ("GlassVows", "keptLife", "[LGlassVows$Life;", true)
  | 14 => ("GlassVows", "keptSaying", "[LGlassVows$Sentence;", true)
  | 15 => ("GlassVows", "isKept", "[Z", true)
  | 16 => ("GlassVows", "notice", "Ljava/lang/StringBuilder;", true)
  | _ => ("GlassVows", "lastFault", "I", false)
def tyX12 : Nat → FieldType := fun k => match k with
  | 0 => .object "GlassVows$Tape"
  | 1 => .object "GlassVows$Parish"
  | 2 => .object "GlassVows$Parish"
  | 3 => .object "GlassVows$ParishReader"
  | 4 => .object "GlassVows$Life"
  | 5 => .object "GlassVows$Life"
  | 6 => .object "GlassVows$Undo"
  | 7 => .object "GlassVows$Forecast"
  | 8 => .object "GlassVows$Watch"
  | 9 => .object "GlassVows$Roll"
  | 10 => .object "GlassVows$Sentence"
  | 11 => .object "GlassVows$Sentence"
  | 12 => .array (.object "GlassVows$Parish")
  | 13 => .array (.object "GlassVows$Life")
  | 14 => .array (.object "GlassVows$Sentence")
  | 15 => .array .boolean
  | 16 => .object "java/lang/StringBuilder"
  | _ => .int
theorem nmX12 : ∀ a, a < 18 → ∀ b, b < 18 → a ≠ b → (TX12 a).2.1 ≠ (TX12 b).2.1 := by decide +kernel
theorem tyX12_ok : ∀ k, k < 18 → parseFieldDescriptor (TX12 k).2.2.1 = some (tyX12 k) := by decide +kernel
def RX13 : String := "GlassVowsModel"
def TX13 : u_T := fun k => match k with
  | 0 => ("GlassVowsModel", "thrown", "I", false)
  | 1 => ("GlassVowsModel", "tape", "[I", true)
  | 2 => ("GlassVowsModel", "taped", "I", false)
  | 3 => ("GlassVowsModel", "size", "I", false)
  | 4 => ("GlassVowsModel", "limit", "I", false)
  | 5 => ("GlassVowsModel", "to", "I", false)
  | 6 => ("GlassVowsModel", "from", "I", false)
  | 7 => ("GlassVowsModel", "kind", "I", false)
  | 8 => ("GlassVowsModel", "number", "I", false)
  | 9 => ("GlassVowsModel", "sign", "I", false)
  | 10 => ("GlassVowsModel", "fault", "I", false)
  | 11 => ("GlassVowsModel", "place", "I", false)
  | 12 => ("GlassVowsModel", "word", "J", false)
  | 13 => ("GlassVowsModel", "told", "I", false)
  | 14 => ("GlassVowsModel", "now", "[I", true)
  | 15 => ("GlassVowsModel", "read", "[I", true)
  | 16 => ("GlassVowsModel", "kept", "[I", true)
  | 17 => ("GlassVowsModel", "snaps", "[I", true)
  | 18 => ("GlassVowsModel", "aside", "[I", true)
  | 19 => ("GlassVowsModel", "name", "[J", true)
  | 20 => ("GlassVowsModel", "readName", "[J", true)
  | 21 => ("GlassVowsModel", "keptName", "[J", true)
  | 22 => ("GlassVowsModel", "isKept", "[Z", true)
  | 23 => ("GlassVowsModel", "snapMany", "I", false)
  | 24 => ("GlassVowsModel", "onces", "I", false)
  | 25 => ("GlassVowsModel", "lapse", "[I", true)
  | 26 => ("GlassVowsModel", "wakes", "[I", true)
  | 27 => ("GlassVowsModel", "waking", "[I", true)
  | 28 => ("GlassVowsModel", "wakings", "I", false)
  | 29 => ("GlassVowsModel", "played", "I", false)
  | 30 => ("GlassVowsModel", "parted", "I", false)
  | 31 => ("GlassVowsModel", "text", "[I", true)
  | 32 => ("GlassVowsModel", "texts", "I", false)
  | 33 => ("GlassVowsModel", "seed", "I", false)
  | 34 => ("GlassVowsModel", "line", "[I", true)
  | 35 => ("GlassVowsModel", "rolled", "[I", true)
  | 36 => ("GlassVowsModel", "lineMany", "I", false)
  | 37 => ("GlassVowsModel", "hasRolled", "Z", false)
  | 38 => ("GlassVowsModel", "node", "[I", true)
  | 39 => ("GlassVowsModel", "nodes", "I", false)
  | 40 => ("GlassVowsModel", "onesMany", "I", false)
  | 41 => ("GlassVowsModel", "within", "I", false)
  | _ => ("GlassVowsModel", "top", "I", false)
def tyX13 : Nat → FieldType := fun k => match k with
  | 0 => .int
  | 1 => .array .int
  | 2 => .int
  | 3 => .int
  | 4 => .int
  | 5 => .int
  | 6 => .int
  | 7 => .int
  | 8 => .int
  | 9 => .int
  | 10 => .int
  | 11 => .int
  | 12 => .long
  | 13 => .int
  | 14 => .array .int
  | 15 => .array .int
  | 16 => .array .int
  | 17 => .array .int
  | 18 => .array .int
  | 19 => .array .long
  | 20 => .array .long
  | 21 => .array .long
  | 22 => .array .boolean
  | 23 => .int
  | 24 => .int
  | 25 => .array .int
  | 26 => .array .int
  | 27 => .array .int
  | 28 => .int
  | 29 => .int
  | 30 => .int
  | 31 => .array .int
  | 32 => .int
  | 33 => .int
  | 34 => .array .int
  | 35 => .array .int
  | 36 => .int
  | 37 => .boolean
  | 38 => .array .int
  | 39 => .int
  | 40 => .int
  | 41 => .int
  | _ => .int
theorem nmX13 : ∀ a, a < 43 → ∀ b, b < 43 → a ≠ b → (TX13 a).2.1 ≠ (TX13 b).2.1 := by decide +kernel
theorem tyX13_ok : ∀ k, k < 43 → parseFieldDescriptor (TX13 k).2.2.1 = some (tyX13 k) := by decide +kernel
abbrev vwCl : List vw_C := [(RJ4, TJ4, 4), (RX1, TX1, 9), (RX2, TX2, 5), (RX3, TX3, 11), (RX4, TX4, 20), (RX5, TX5, 4), (RX6, TX6, 11), (RX7, TX7, 5), (RX8, TX8, 11), (RX9, TX9, 2), (RX10, TX10, 6), (RX12, TX12, 18), (RX13, TX13, 43)]
def c_n : Nat → Nat := fun k => match k with
  | 0 => 4
  | 1 => 9
  | 2 => 5
  | 3 => 11
  | 4 => 20
  | 5 => 4
  | 6 => 11
  | 7 => 5
  | 8 => 11
  | 9 => 2
  | 10 => 6
  | 11 => 18
  | 12 => 43
  | _ => 0
def c_t0 : Nat → Nat := fun k => match k with
  | 0 => 2
  | _ => 0
def c_r0 : Nat → Nat × Nat := fun k => match k with
  | 0 => (2, 0)
  | _ => (101, 0)
def c_t1 : Nat → Nat := fun k => match k with
  | 0 => 2
  | 1 => 2
  | 2 => 2
  | 3 => 2
  | _ => 0
def c_r1 : Nat → Nat × Nat := fun k => match k with
  | 0 => (0, 4)
  | 1 => (0, 3)
  | 2 => (1, 0)
  | 3 => (1, 0)
  | _ => (101, 0)
def c_t2 : Nat → Nat := fun k => match k with
  | 0 => 2
  | 1 => 2
  | 2 => 2
  | 3 => 2
  | _ => 0
def c_r2 : Nat → Nat × Nat := fun k => match k with
  | 0 => (4, 0)
  | 1 => (1, 0)
  | 2 => (1, 0)
  | 3 => (1, 0)
  | _ => (101, 0)
def c_t3 : Nat → Nat := fun k => match k with
  | 0 => 2
  | 4 => 2
  | 5 => 2
  | 6 => 2
  | 7 => 2
  | 8 => 2
  | 9 => 2
  | 10 => 2
  | _ => 0
def c_r3 : Nat → Nat × Nat := fun k => match k with
  | 0 => (0, 4)
  | 4 => (1, 0)
  | 5 => (1, 0)
  | 6 => (1, 0)
  | 7 => (1, 0)
  | 8 => (1, 0)
  | 9 => (1, 0)
  | 10 => (1, 0)
  | _ => (101, 0)
def c_t4 : Nat → Nat := fun k => match k with
  | 0 => 2
  | 1 => 2
  | 2 => 2
  | 3 => 2
  | 4 => 2
  | 5 => 2
  | 7 => 2
  | 8 => 2
  | 9 => 2
  | 10 => 2
  | 11 => 2
  | 13 => 2
  | 15 => 2
  | _ => 0
def c_r4 : Nat → Nat × Nat := fun k => match k with
  | 0 => (4, 0)
  | 1 => (1, 0)
  | 2 => (1, 0)
  | 3 => (1, 0)
  | 4 => (1, 0)
  | 5 => (1, 0)
  | 7 => (4, 0)
  | 8 => (1, 0)
  | 9 => (1, 0)
  | 10 => (1, 0)
  | 11 => (1, 0)
  | 13 => (1, 0)
  | 15 => (0, 2)
  | _ => (101, 0)
def c_t5 : Nat → Nat := fun k => match k with
  | 0 => 2
  | 1 => 2
  | _ => 0
def c_r5 : Nat → Nat × Nat := fun k => match k with
  | 0 => (0, 8)
  | 1 => (0, 4)
  | _ => (101, 0)
def c_t6 : Nat → Nat := fun k => match k with
  | 0 => 2
  | 1 => 2
  | 2 => 2
  | 3 => 2
  | 4 => 2
  | _ => 0
def c_r6 : Nat → Nat × Nat := fun k => match k with
  | 0 => (0, 8)
  | 1 => (0, 4)
  | 2 => (1, 0)
  | 3 => (1, 0)
  | 4 => (1, 0)
  | _ => (101, 0)
def c_t7 : Nat → Nat := fun k => match k with
  | 0 => 2
  | 1 => 2
  | 2 => 2
  | _ => 0
def c_r7 : Nat → Nat × Nat := fun k => match k with
  | 0 => (8, 0)
  | 1 => (1, 0)
  | 2 => (1, 0)
  | _ => (101, 0)
def c_t8 : Nat → Nat := fun k => match k with
  | 0 => 2
  | 7 => 1
  | 8 => 2
  | _ => 0
def c_r8 : Nat → Nat × Nat := fun k => match k with
  | 0 => (2, 0)
  | 8 => (100, 0)
  | _ => (101, 0)
def c_t9 : Nat → Nat := fun k => match k with
  | 0 => 2
  | _ => 0
def c_r9 : Nat → Nat × Nat := fun k => match k with
  | 0 => (5, 0)
  | _ => (101, 0)
def c_t10 : Nat → Nat := fun k => match k with
  | 0 => 2
  | 1 => 2
  | 2 => 2
  | 3 => 2
  | _ => 0
def c_r10 : Nat → Nat × Nat := fun k => match k with
  | 0 => (0, 1)
  | 1 => (1, 0)
  | 2 => (1, 0)
  | 3 => (1, 0)
  | _ => (101, 0)
def c_t11 : Nat → Nat := fun k => match k with
  | 0 => 2
  | 1 => 2
  | 2 => 2
  | 3 => 2
  | 4 => 2
  | 5 => 2
  | 6 => 2
  | 7 => 2
  | 8 => 2
  | 9 => 2
  | 10 => 2
  | 11 => 2
  | 12 => 2
  | 13 => 2
  | 14 => 2
  | 15 => 2
  | 16 => 2
  | _ => 0
def c_r11 : Nat → Nat × Nat := fun k => match k with
  | 0 => (0, 8)
  | 1 => (0, 4)
  | 2 => (0, 4)
  | 3 => (0, 5)
  | 4 => (0, 3)
  | 5 => (0, 3)
  | 6 => (0, 9)
  | 7 => (0, 1)
  | 8 => (0, 10)
  | 9 => (0, 6)
  | 10 => (0, 7)
  | 11 => (0, 7)
  | 12 => (6, 0)
  | 13 => (5, 0)
  | 14 => (7, 0)
  | 15 => (3, 0)
  | 16 => (101, 0)
  | _ => (101, 0)
def c_t12 : Nat → Nat := fun k => match k with
  | 1 => 2
  | 12 => 1
  | 14 => 2
  | 15 => 2
  | 16 => 2
  | 17 => 2
  | 18 => 2
  | 19 => 2
  | 20 => 2
  | 21 => 2
  | 22 => 2
  | 25 => 2
  | 26 => 2
  | 27 => 2
  | 31 => 2
  | 34 => 2
  | 35 => 2
  | 38 => 2
  | _ => 0
def c_r12 : Nat → Nat × Nat := fun k => match k with
  | 1 => (1, 0)
  | 14 => (1, 0)
  | 15 => (1, 0)
  | 16 => (1, 0)
  | 17 => (1, 0)
  | 18 => (1, 0)
  | 19 => (4, 0)
  | 20 => (4, 0)
  | 21 => (4, 0)
  | 22 => (3, 0)
  | 25 => (1, 0)
  | 26 => (1, 0)
  | 27 => (1, 0)
  | 31 => (1, 0)
  | 34 => (1, 0)
  | 35 => (1, 0)
  | 38 => (1, 0)
  | _ => (101, 0)
def c_t : Nat → Nat → Nat := fun k => match k with
  | 0 => c_t0
  | 1 => c_t1
  | 2 => c_t2
  | 3 => c_t3
  | 4 => c_t4
  | 5 => c_t5
  | 6 => c_t6
  | 7 => c_t7
  | 8 => c_t8
  | 9 => c_t9
  | 10 => c_t10
  | 11 => c_t11
  | 12 => c_t12
  | _ => fun _ => 0
def c_r : Nat → Nat → Nat × Nat := fun k => match k with
  | 0 => c_r0
  | 1 => c_r1
  | 2 => c_r2
  | 3 => c_r3
  | 4 => c_r4
  | 5 => c_r5
  | 6 => c_r6
  | 7 => c_r7
  | 8 => c_r8
  | 9 => c_r9
  | 10 => c_r10
  | 11 => c_r11
  | 12 => c_r12
  | _ => fun _ => (101, 0)
