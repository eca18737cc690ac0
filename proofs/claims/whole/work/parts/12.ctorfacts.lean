/-! what the tables say of what is made -/
def RJ5 : String := "java/lang/AbstractStringBuilder"
/-! names and decode rows (printed) -/
abbrev cJ5_init_d00df : ByteArray := prog_17_method_2_code
def yJ5_init_d00df : MethodName := ⟨RJ5, "<init>", "(I)V"⟩
abbrev cJ4_init_da8c8 : ByteArray := prog_29_method_1_code
def yJ4_init_da8c8 : MethodName := ⟨RJ4, "<init>", "()V"⟩
theorem dJ5_init_d00df_0 : decode cJ5_init_d00df 0 = .ok (.aload_n 0, 1) := by decide +kernel
theorem dJ5_init_d00df_1 : decode cJ5_init_d00df 1 = .ok (.invokespecial 3, 3) := by decide +kernel
theorem dJ5_init_d00df_4 : decode cJ5_init_d00df 4 = .ok (.getstatic 18, 3) := by decide +kernel
theorem dJ5_init_d00df_7 : decode cJ5_init_d00df 7 = .ok (.ifCond .eq 18, 3) := by decide +kernel
theorem dJ5_init_d00df_10 : decode cJ5_init_d00df 10 = .ok (.aload_n 0, 1) := by decide +kernel
theorem dJ5_init_d00df_11 : decode cJ5_init_d00df 11 = .ok (.iload_n 1, 1) := by decide +kernel
theorem dJ5_init_d00df_12 : decode cJ5_init_d00df 12 = .ok (.newarray .byte, 2) := by decide +kernel
theorem dJ5_init_d00df_14 : decode cJ5_init_d00df 14 = .ok (.putfield 15, 3) := by decide +kernel
theorem dJ5_init_d00df_17 : decode cJ5_init_d00df 17 = .ok (.aload_n 0, 1) := by decide +kernel
theorem dJ5_init_d00df_18 : decode cJ5_init_d00df 18 = .ok (.iconst 0, 1) := by decide +kernel
theorem dJ5_init_d00df_19 : decode cJ5_init_d00df 19 = .ok (.putfield 22, 3) := by decide +kernel
theorem dJ5_init_d00df_22 : decode cJ5_init_d00df 22 = .ok (.goto 16, 3) := by decide +kernel
theorem dJ5_init_d00df_25 : decode cJ5_init_d00df 25 = .ok (.aload_n 0, 1) := by decide +kernel
theorem dJ5_init_d00df_26 : decode cJ5_init_d00df 26 = .ok (.iload_n 1, 1) := by decide +kernel
theorem dJ5_init_d00df_27 : decode cJ5_init_d00df 27 = .ok (.invokestatic 26, 3) := by decide +kernel
theorem dJ5_init_d00df_30 : decode cJ5_init_d00df 30 = .ok (.putfield 15, 3) := by decide +kernel
theorem dJ5_init_d00df_33 : decode cJ5_init_d00df 33 = .ok (.aload_n 0, 1) := by decide +kernel
theorem dJ5_init_d00df_34 : decode cJ5_init_d00df 34 = .ok (.iconst 1, 1) := by decide +kernel
theorem dJ5_init_d00df_35 : decode cJ5_init_d00df 35 = .ok (.putfield 22, 3) := by decide +kernel
theorem dJ5_init_d00df_38 : decode cJ5_init_d00df 38 = .ok (.return_, 1) := by decide +kernel
theorem dJ4_init_da8c8_0 : decode cJ4_init_da8c8 0 = .ok (.aload_n 0, 1) := by decide +kernel
theorem dJ4_init_da8c8_1 : decode cJ4_init_da8c8 1 = .ok (.bipush 16, 2) := by decide +kernel
theorem dJ4_init_da8c8_3 : decode cJ4_init_da8c8 3 = .ok (.invokespecial 1, 3) := by decide +kernel
theorem dJ4_init_da8c8_6 : decode cJ4_init_da8c8 6 = .ok (.return_, 1) := by decide +kernel
theorem fw_X7_24 : Cond.fieldLink RX7 24 "GlassVows$Word" (wnm 0) "LGlassVows$Word;" ∈ gw := gw1 598 (by decide +kernel) (by decide +kernel)
theorem inJ4 : ∀ w ∈ u_ws RJ4 TJ4 4, w ∈ gw := in_places [640, 642, 644, 646] (by decide +kernel) (by decide +kernel)
theorem nw_X12_7 : NWd RX12 7 8 := ⟨RX8, TX8, 11, tyX8, rfl, rfl, inX8, tyX8_ok, by decide +kernel, gw1 181 (by decide +kernel) (by decide +kernel), gw1 182 (by decide +kernel) (by decide +kernel), gw1 143 (by decide +kernel) (by decide +kernel)⟩
theorem nw_X12_16 : NWd RX12 16 4 := ⟨RX4, TX4, 20, tyX4, rfl, rfl, inX4, tyX4_ok, by decide +kernel, gw1 240 (by decide +kernel) (by decide +kernel), gw1 241 (by decide +kernel) (by decide +kernel), gw1 146 (by decide +kernel) (by decide +kernel)⟩
theorem nw_X12_26 : NWd RX12 26 5 := ⟨RX5, TX5, 4, tyX5, rfl, rfl, inX5, tyX5_ok, by decide +kernel, gw1 392 (by decide +kernel) (by decide +kernel), gw1 393 (by decide +kernel) (by decide +kernel), gw1 148 (by decide +kernel) (by decide +kernel)⟩
theorem nw_X12_35 : NWd RX12 35 3 := ⟨RX3, TX3, 11, tyX3, rfl, rfl, inX3, tyX3_ok, by decide +kernel, gw1 411 (by decide +kernel) (by decide +kernel), gw1 412 (by decide +kernel) (by decide +kernel), gw1 149 (by decide +kernel) (by decide +kernel)⟩
theorem nw_X12_47 : NWd RX12 47 9 := ⟨RX9, TX9, 2, tyX9, rfl, rfl, inX9, tyX9_ok, by decide +kernel, gw1 470 (by decide +kernel) (by decide +kernel), gw1 471 (by decide +kernel) (by decide +kernel), gw1 150 (by decide +kernel) (by decide +kernel)⟩
theorem nw_X12_54 : NWd RX12 54 1 := ⟨RX1, TX1, 9, tyX1, rfl, rfl, inX1, tyX1_ok, by decide +kernel, gw1 486 (by decide +kernel) (by decide +kernel), gw1 487 (by decide +kernel) (by decide +kernel), gw1 151 (by decide +kernel) (by decide +kernel)⟩
theorem nw_X12_63 : NWd RX12 63 10 := ⟨RX10, TX10, 6, tyX10, rfl, rfl, inX10, tyX10_ok, by decide +kernel, gw1 524 (by decide +kernel) (by decide +kernel), gw1 525 (by decide +kernel) (by decide +kernel), gw1 152 (by decide +kernel) (by decide +kernel)⟩
theorem nw_X12_72 : NWd RX12 72 6 := ⟨RX6, TX6, 11, tyX6, rfl, rfl, inX6, tyX6_ok, by decide +kernel, gw1 549 (by decide +kernel) (by decide +kernel), gw1 550 (by decide +kernel) (by decide +kernel), gw1 153 (by decide +kernel) (by decide +kernel)⟩
theorem nw_X12_79 : NWd RX12 79 7 := ⟨RX7, TX7, 5, tyX7, rfl, rfl, inX7, tyX7_ok, by decide +kernel, gw1 590 (by decide +kernel) (by decide +kernel), gw1 591 (by decide +kernel) (by decide +kernel), gw1 154 (by decide +kernel) (by decide +kernel)⟩
theorem nw_X12_105 : NWd RX12 105 0 := ⟨RJ4, TJ4, 4, tyJ4, rfl, rfl, inJ4, tyJ4_ok, by decide +kernel, gw1 618 (by decide +kernel) (by decide +kernel), gw1 619 (by decide +kernel) (by decide +kernel), gw1 156 (by decide +kernel) (by decide +kernel)⟩
theorem nw_X4_49 : NWd RX4 49 2 := ⟨RX2, TX2, 5, tyX2, rfl, rfl, inX2, tyX2_ok, by decide +kernel, gw1 246 (by decide +kernel) (by decide +kernel), gw1 247 (by decide +kernel) (by decide +kernel), gw1 147 (by decide +kernel) (by decide +kernel)⟩
theorem nw_X9_11 : NWd RX9 11 3 := ⟨RX3, TX3, 11, tyX3, rfl, rfl, inX3, tyX3_ok, by decide +kernel, gw1 476 (by decide +kernel) (by decide +kernel), gw1 412 (by decide +kernel) (by decide +kernel), gw1 149 (by decide +kernel) (by decide +kernel)⟩
theorem ak_1 : Cond.arrayClass .int ∈ gw := gw1 280 (by decide +kernel) (by decide +kernel)
theorem ak_2 : Cond.arrayClass .byte ∈ gw := gw1 239 (by decide +kernel) (by decide +kernel)
theorem ak_3 : Cond.arrayClass .boolean ∈ gw := gw1 649 (by decide +kernel) (by decide +kernel)
theorem ak_4 : Cond.arrayClass .long ∈ gw := gw1 279 (by decide +kernel) (by decide +kernel)
theorem aq_X12_16 : Cond.classLink RX12 16 "GlassVows$Parish" ∈ gw := gw1 240 (by decide +kernel) (by decide +kernel)
theorem aq_X12_35 : Cond.classLink RX12 35 "GlassVows$Life" ∈ gw := gw1 411 (by decide +kernel) (by decide +kernel)
theorem aq_X12_79 : Cond.classLink RX12 79 "GlassVows$Sentence" ∈ gw := gw1 590 (by decide +kernel) (by decide +kernel)
theorem aq_X7_11 : Cond.classLink RX7 11 "GlassVows$Word" ∈ gw := gw1 596 (by decide +kernel) (by decide +kernel)
theorem aq_X9_11 : Cond.classLink RX9 11 "GlassVows$Life" ∈ gw := gw1 476 (by decide +kernel) (by decide +kernel)
theorem oi_X12_1 : Cond.methodLink RX12 1 Lib.objectInit ∈ gw := gw1 178 (by decide +kernel) (by decide +kernel)
theorem oi_X1_3 : Cond.methodLink RX1 3 Lib.objectInit ∈ gw := gw1 491 (by decide +kernel) (by decide +kernel)
theorem oi_X2_3 : Cond.methodLink RX2 3 Lib.objectInit ∈ gw := gw1 251 (by decide +kernel) (by decide +kernel)
theorem oi_X3_3 : Cond.methodLink RX3 3 Lib.objectInit ∈ gw := gw1 416 (by decide +kernel) (by decide +kernel)
theorem oi_X4_3 : Cond.methodLink RX4 3 Lib.objectInit ∈ gw := gw1 245 (by decide +kernel) (by decide +kernel)
theorem oi_X5_3 : Cond.methodLink RX5 3 Lib.objectInit ∈ gw := gw1 397 (by decide +kernel) (by decide +kernel)
theorem oi_X6_3 : Cond.methodLink RX6 3 Lib.objectInit ∈ gw := gw1 554 (by decide +kernel) (by decide +kernel)
theorem oi_X7_5 : Cond.methodLink RX7 5 Lib.objectInit ∈ gw := gw1 595 (by decide +kernel) (by decide +kernel)
theorem oi_X8_1 : Cond.methodLink RX8 1 Lib.objectInit ∈ gw := gw1 186 (by decide +kernel) (by decide +kernel)
theorem oi_X9_3 : Cond.methodLink RX9 3 Lib.objectInit ∈ gw := gw1 475 (by decide +kernel) (by decide +kernel)
theorem oi_X10_3 : Cond.methodLink RX10 3 Lib.objectInit ∈ gw := gw1 529 (by decide +kernel) (by decide +kernel)
theorem oi_X13_93 : Cond.methodLink RX13 93 Lib.objectInit ∈ gw := gw1 1761 (by decide +kernel) (by decide +kernel)
theorem oi_i : Cond.instanceMethod Lib.objectInit ∈ gw := gw1 179 (by decide +kernel) (by decide +kernel)
theorem oi_c : Cond.code Lib.objectInit ⟨#[0xb1]⟩ 1 none ∈ gw := gw1 180 (by decide +kernel) (by decide +kernel)
theorem ci_X12_9 : CINd RX12 9 yX8_init cX8_init 1 0 "GlassVows" := ⟨fun U h => h.1, gw1 184 (by decide +kernel) (by decide +kernel), gw1 143 (by decide +kernel) (by decide +kernel), gw1 185 (by decide +kernel) (by decide +kernel), by decide, rfl, by decide +kernel⟩
theorem ci_X12_18 : CINd RX12 18 yX4_init cX4_init 1 0 "GlassVows" := ⟨fun U h => h.2.1, gw1 243 (by decide +kernel) (by decide +kernel), gw1 146 (by decide +kernel) (by decide +kernel), gw1 244 (by decide +kernel) (by decide +kernel), by decide, rfl, by decide +kernel⟩
theorem ci_X12_28 : CId RX12 28 yX5_init cX5_init 3 2 := ⟨gw1 394 (by decide +kernel) (by decide +kernel), gw1 395 (by decide +kernel) (by decide +kernel), gw1 148 (by decide +kernel) (by decide +kernel), gw1 396 (by decide +kernel) (by decide +kernel), by decide, rfl, by decide +kernel⟩
theorem ci_X12_37 : CId RX12 37 yX3_init cX3_init 2 1 := ⟨gw1 413 (by decide +kernel) (by decide +kernel), gw1 414 (by decide +kernel) (by decide +kernel), gw1 149 (by decide +kernel) (by decide +kernel), gw1 415 (by decide +kernel) (by decide +kernel), by decide, rfl, by decide +kernel⟩
theorem ci_X12_49 : CId RX12 49 yX9_init cX9_init 3 1 := ⟨gw1 472 (by decide +kernel) (by decide +kernel), gw1 473 (by decide +kernel) (by decide +kernel), gw1 150 (by decide +kernel) (by decide +kernel), gw1 474 (by decide +kernel) (by decide +kernel), by decide, rfl, by decide +kernel⟩
theorem ci_X12_56 : CId RX12 56 yX1_init cX1_init 3 2 := ⟨gw1 488 (by decide +kernel) (by decide +kernel), gw1 489 (by decide +kernel) (by decide +kernel), gw1 151 (by decide +kernel) (by decide +kernel), gw1 490 (by decide +kernel) (by decide +kernel), by decide, rfl, by decide +kernel⟩
theorem ci_X12_65 : CId RX12 65 yX10_init cX10_init 2 1 := ⟨gw1 526 (by decide +kernel) (by decide +kernel), gw1 527 (by decide +kernel) (by decide +kernel), gw1 152 (by decide +kernel) (by decide +kernel), gw1 528 (by decide +kernel) (by decide +kernel), by decide, rfl, by decide +kernel⟩
theorem ci_X12_74 : CId RX12 74 yX6_init cX6_init 3 2 := ⟨gw1 551 (by decide +kernel) (by decide +kernel), gw1 552 (by decide +kernel) (by decide +kernel), gw1 153 (by decide +kernel) (by decide +kernel), gw1 553 (by decide +kernel) (by decide +kernel), by decide, rfl, by decide +kernel⟩
theorem ci_X12_81 : CId RX12 81 yX7_init cX7_init 2 0 := ⟨gw1 592 (by decide +kernel) (by decide +kernel), gw1 593 (by decide +kernel) (by decide +kernel), gw1 154 (by decide +kernel) (by decide +kernel), gw1 594 (by decide +kernel) (by decide +kernel), by decide, rfl, by decide +kernel⟩
theorem ci_X12_107 : CId RX12 107 yJ4_init_da8c8 cJ4_init_da8c8 1 0 := ⟨gw1 620 (by decide +kernel) (by decide +kernel), gw1 621 (by decide +kernel) (by decide +kernel), gw1 156 (by decide +kernel) (by decide +kernel), gw1 622 (by decide +kernel) (by decide +kernel), by decide, rfl, by decide +kernel⟩
theorem ci_X4_51 : CINd RX4 51 yX2_init cX2_init 1 0 "GlassVows" := ⟨fun U h => h.2.2.1, gw1 249 (by decide +kernel) (by decide +kernel), gw1 147 (by decide +kernel) (by decide +kernel), gw1 250 (by decide +kernel) (by decide +kernel), by decide, rfl, by decide +kernel⟩
theorem ci_X9_17 : CId RX9 17 yX3_init cX3_init 2 1 := ⟨gw1 478 (by decide +kernel) (by decide +kernel), gw1 414 (by decide +kernel) (by decide +kernel), gw1 149 (by decide +kernel) (by decide +kernel), gw1 415 (by decide +kernel) (by decide +kernel), by decide, rfl, by decide +kernel⟩
