/-! the start: constants, classes, arrays -/
theorem in_tbl {ws : List Cond} (ps : List Nat) (hp : ws = ps.filterMap (fun i => lw_tbl[i]?)) : ∀ w ∈ ws, w ∈ lw_tbl := by
  intro w hw
  rw [hp] at hw
  obtain ⟨i, -, hi⟩ := List.mem_filterMap.mp hw
  exact List.mem_of_getElem? hi
def lsP : Nat → Nat := fun i => match i with
  | 0 => 188
  | 1 => 754
  | 2 => 2461
  | 3 => 2462
  | 4 => 2463
  | 5 => 2464
  | 6 => 2465
  | 7 => 2466
  | 8 => 2467
  | 9 => 2468
  | 10 => 2469
  | 11 => 2470
  | 12 => 2471
  | 13 => 2472
  | 14 => 2473
  | 15 => 2474
  | 16 => 2475
  | 17 => 2476
  | 18 => 1527
  | 19 => 1622
  | 20 => 1620
  | 21 => 1606
  | 22 => 2477
  | 23 => 2478
  | 24 => 2479
  | 25 => 2480
  | 26 => 1616
  | 27 => 1597
  | 28 => 1599
  | 29 => 1601
  | 30 => 1603
  | _ => 0
theorem ls_words : ∀ i, i < 31 → lw_tbl[lsP i]? = some (Cond.laysStatic "GlassVows$Word" (wnm i) "LGlassVows$Word;") := by decide +kernel
def fl1 : List Cond := flatC (Jvm.Cond.and given_1 narrow_1)
theorem fl_ex : ∀ i, i < 31 → Cond.exactly (.static "GlassVows$Word" (wnm i) "LGlassVows$Word;") "GlassVows$Word" ∈ fl1 := by decide +kernel
theorem fl_ord : ∀ i, i < 31 → Cond.eq (.field (.static "GlassVows$Word" (wnm i) "LGlassVows$Word;") "java/lang/Enum" "ordinal" "I") (.int (Int32.ofNat i)) ∈ fl1 := by decide +kernel
theorem fl_code : ∀ i, i < 31 → Cond.eq (.field (.static "GlassVows$Word" (wnm i) "LGlassVows$Word;") "GlassVows$Word" "code" "J") (.long (wcode i)) ∈ fl1 := by decide +kernel
theorem fl_all : ∀ i, i < 31 → Cond.eq (.elem (.static "GlassVows$Word" "ALL" "[LGlassVows$Word;") (.int (Int32.ofNat i))) (.static "GlassVows$Word" (wnm i) "LGlassVows$Word;") ∈ fl1 := by decide +kernel
theorem fl_swm : ∀ i, i < 31 → Cond.eq (.elem (.static "GlassVows$1" "$SwitchMap$GlassVows$Word" "[I") (.int (Int32.ofNat i))) (.int (swm i)) ∈ fl1 := by decide +kernel
theorem fl_o1 : ∀ w ∈ ([Cond.arrayOf (.static "GlassVows$Word" "ALL" "[LGlassVows$Word;") (.object "GlassVows$Word"), Cond.eq (.length (.static "GlassVows$Word" "ALL" "[LGlassVows$Word;")) (.int 31), Cond.arrayOf (.static "GlassVows$1" "$SwitchMap$GlassVows$Word" "[I") .int, Cond.eq (.length (.static "GlassVows$1" "$SwitchMap$GlassVows$Word" "[I")) (.int 31), Cond.eq (.static "java/lang/String" "COMPACT_STRINGS" "Z") (.int 1), Cond.isRef (.static "java/lang/Throwable" "UNASSIGNED_STACK" "[Ljava/lang/StackTraceElement;"), Cond.isRef (.static "java/lang/Throwable" "SUPPRESSED_SENTINEL" "Ljava/util/List;")] : List Cond), w ∈ fl1 := by decide +kernel
theorem tb_o1 : ∀ w ∈ ([(.laysStatic "GlassVows$Word" "ALL" "[LGlassVows$Word;"), (.laysStatic "GlassVows$1" "$SwitchMap$GlassVows$Word" "[I"), (.laysStatic "java/lang/String" "COMPACT_STRINGS" "Z"), (.initialized "GlassVows$Word"), (.initialized "GlassVows$1"), (.initialized "java/lang/String"), (.laysStatic "java/lang/Throwable" "UNASSIGNED_STACK" "[Ljava/lang/StackTraceElement;"), (.laysStatic "java/lang/Throwable" "SUPPRESSED_SENTINEL" "Ljava/util/List;"), (.initialized "java/lang/Throwable"), (.stringRef "GlassVows" 150 "no such person"), (.stringRef "GlassVows" 179 "no such thing of a person"), (.stringRef "GlassVows" 184 "no such glass"), (.stringRef "GlassVows" 220 "no such thing of a glass"), (.initialized "GlassVows"), (.arrayClass .int), (.arrayClass .byte), (.arrayClass .boolean), (.arrayClass .long), (.arrayOver (.object "GlassVows$Life")), (.arrayOver (.object "GlassVows$Parish")), (.arrayOver (.object "GlassVows$Sentence")), (.arrayOver (.object "GlassVows$Word")), (.methodLinkNest "GlassVows" 9 ⟨"GlassVows$Tape", "<init>", "()V"⟩ "GlassVows"), (.methodLinkNest "GlassVows" 18 ⟨"GlassVows$Parish", "<init>", "()V"⟩ "GlassVows"), (.methodLinkNest "GlassVows$Parish" 51 ⟨"GlassVows$Goods", "<init>", "()V"⟩ "GlassVows")] : List Cond), w ∈ lw_tbl := in_tbl [752, 760, 628, 145, 160, 157, 1688, 1690, 162, 1700, 1730, 1738, 1739, 142, 280, 239, 649, 279, 477, 616, 617, 597, 183, 242, 248] (by decide +kernel)
