/-! names, decode rows (printed) and table words of the JDK's methods behind banns and byteAt -/
def RJ0 : String := "java/lang/String"
def RJ1 : String := "java/lang/StringLatin1"
def RJ3 : String := "jdk/internal/util/Preconditions"
def RJ6 : String := "java/lang/Integer"
def RJ7 : String := "java/util/Arrays"
def RJ8 : String := "jdk/internal/util/ArraysSupport"
abbrev cJ4_length_8abf5 : ByteArray := prog_29_method_93_code
def yJ4_length_8abf5 : MethodName := ⟨RJ4, "length", "()I"⟩
abbrev cJ5_length_8abf5 : ByteArray := prog_17_method_6_code
def yJ5_length_8abf5 : MethodName := ⟨RJ5, "length", "()I"⟩
abbrev cJ4_charAt_5068e : ByteArray := prog_29_method_88_code
def yJ4_charAt_5068e : MethodName := ⟨RJ4, "charAt", "(I)C"⟩
abbrev cJ5_charAt_5068e : ByteArray := prog_17_method_14_code
def yJ5_charAt_5068e : MethodName := ⟨RJ5, "charAt", "(I)C"⟩
abbrev cJ0_checkIndex_df160 : ByteArray := prog_28_method_155_code
def yJ0_checkIndex_df160 : MethodName := ⟨RJ0, "checkIndex", "(II)V"⟩
abbrev cJ3_checkIndex_8e157 : ByteArray := prog_39_method_11_code
def yJ3_checkIndex_8e157 : MethodName := ⟨RJ3, "checkIndex", "(IILjava/util/function/BiFunction;)I"⟩
abbrev cJ5_isLatin1_aae02 : ByteArray := prog_17_method_68_code
def yJ5_isLatin1_aae02 : MethodName := ⟨RJ5, "isLatin1", "()Z"⟩
abbrev cJ4_setLength_d00df : ByteArray := prog_29_method_89_code
def yJ4_setLength_d00df : MethodName := ⟨RJ4, "setLength", "(I)V"⟩
abbrev cJ5_setLength_d00df : ByteArray := prog_17_method_13_code
def yJ5_setLength_d00df : MethodName := ⟨RJ5, "setLength", "(I)V"⟩
abbrev cJ5_ensureCapacityInternal_d00df : ByteArray := prog_17_method_9_code
def yJ5_ensureCapacityInternal_d00df : MethodName := ⟨RJ5, "ensureCapacityInternal", "(I)V"⟩
abbrev cJ5_newCapacity_0f7a4 : ByteArray := prog_17_method_10_code
def yJ5_newCapacity_0f7a4 : MethodName := ⟨RJ5, "newCapacity", "(I)I"⟩
abbrev cJ8_newLength_cabcc : ByteArray := prog_38_method_27_code
def yJ8_newLength_cabcc : MethodName := ⟨RJ8, "newLength", "(III)I"⟩
abbrev cJ7_copyOf_9075b : ByteArray := prog_36_method_121_code
def yJ7_copyOf_9075b : MethodName := ⟨RJ7, "copyOf", "([BI)[B"⟩
abbrev cJ4_append_15ec4 : ByteArray := prog_29_method_7_code
def yJ4_append_15ec4 : MethodName := ⟨RJ4, "append", "(Ljava/lang/String;)Ljava/lang/StringBuilder;"⟩
abbrev cJ4_append_cf468 : ByteArray := prog_29_method_14_code
def yJ4_append_cf468 : MethodName := ⟨RJ4, "append", "(C)Ljava/lang/StringBuilder;"⟩
abbrev cJ4_append_bf812 : ByteArray := prog_29_method_15_code
def yJ4_append_bf812 : MethodName := ⟨RJ4, "append", "(I)Ljava/lang/StringBuilder;"⟩
abbrev cJ5_append_cf1ce : ByteArray := prog_17_method_22_code
def yJ5_append_cf1ce : MethodName := ⟨RJ5, "append", "(Ljava/lang/String;)Ljava/lang/AbstractStringBuilder;"⟩
abbrev cJ5_append_3fe6f : ByteArray := prog_17_method_31_code
def yJ5_append_3fe6f : MethodName := ⟨RJ5, "append", "(C)Ljava/lang/AbstractStringBuilder;"⟩
abbrev cJ5_append_c97b9 : ByteArray := prog_17_method_32_code
def yJ5_append_c97b9 : MethodName := ⟨RJ5, "append", "(I)Ljava/lang/AbstractStringBuilder;"⟩
abbrev cJ1_canEncode_fc78d : ByteArray := prog_30_method_3_code
def yJ1_canEncode_fc78d : MethodName := ⟨RJ1, "canEncode", "(C)Z"⟩
abbrev cJ0_length_8abf5 : ByteArray := prog_28_method_54_code
def yJ0_length_8abf5 : MethodName := ⟨RJ0, "length", "()I"⟩
abbrev cJ0_coder_7d493 : ByteArray := prog_28_method_152_code
def yJ0_coder_7d493 : MethodName := ⟨RJ0, "coder", "()B"⟩
abbrev cJ5_putStringAt_47b60 : ByteArray := prog_17_method_73_code
def yJ5_putStringAt_47b60 : MethodName := ⟨RJ5, "putStringAt", "(ILjava/lang/String;)V"⟩
abbrev cJ5_inflateIfNeededFor_a7421 : ByteArray := prog_17_method_71_code
def yJ5_inflateIfNeededFor_a7421 : MethodName := ⟨RJ5, "inflateIfNeededFor", "(Ljava/lang/String;)V"⟩
abbrev cJ0_getBytes_840e7 : ByteArray := prog_28_method_147_code
def yJ0_getBytes_840e7 : MethodName := ⟨RJ0, "getBytes", "([BIB)V"⟩
abbrev cJ6_stringSize_0f7a4 : ByteArray := prog_24_method_13_code
def yJ6_stringSize_0f7a4 : MethodName := ⟨RJ6, "stringSize", "(I)I"⟩
abbrev cJ6_getChars_ba4f3 : ByteArray := prog_24_method_12_code
def yJ6_getChars_ba4f3 : MethodName := ⟨RJ6, "getChars", "(II[B)I"⟩
theorem dJ4_length_8abf5_0 : decode cJ4_length_8abf5 0 = .ok (.aload_n 0, 1) := by decide +kernel
theorem dJ4_length_8abf5_1 : decode cJ4_length_8abf5 1 = .ok (.invokespecial 343, 3) := by decide +kernel
theorem dJ4_length_8abf5_4 : decode cJ4_length_8abf5 4 = .ok (.ireturn, 1) := by decide +kernel
theorem dJ5_length_8abf5_0 : decode cJ5_length_8abf5 0 = .ok (.aload_n 0, 1) := by decide +kernel
theorem dJ5_length_8abf5_1 : decode cJ5_length_8abf5 1 = .ok (.getfield 79, 3) := by decide +kernel
theorem dJ5_length_8abf5_4 : decode cJ5_length_8abf5 4 = .ok (.ireturn, 1) := by decide +kernel
theorem dJ4_charAt_5068e_0 : decode cJ4_charAt_5068e 0 = .ok (.aload_n 0, 1) := by decide +kernel
theorem dJ4_charAt_5068e_1 : decode cJ4_charAt_5068e 1 = .ok (.iload_n 1, 1) := by decide +kernel
theorem dJ4_charAt_5068e_2 : decode cJ4_charAt_5068e 2 = .ok (.invokespecial 329, 3) := by decide +kernel
theorem dJ4_charAt_5068e_5 : decode cJ4_charAt_5068e 5 = .ok (.ireturn, 1) := by decide +kernel
theorem dJ5_charAt_5068e_0 : decode cJ5_charAt_5068e 0 = .ok (.aload_n 0, 1) := by decide +kernel
theorem dJ5_charAt_5068e_1 : decode cJ5_charAt_5068e 1 = .ok (.getfield 22, 3) := by decide +kernel
theorem dJ5_charAt_5068e_4 : decode cJ5_charAt_5068e 4 = .ok (.istore_n 2, 1) := by decide +kernel
theorem dJ5_charAt_5068e_5 : decode cJ5_charAt_5068e 5 = .ok (.aload_n 0, 1) := by decide +kernel
theorem dJ5_charAt_5068e_6 : decode cJ5_charAt_5068e 6 = .ok (.getfield 15, 3) := by decide +kernel
theorem dJ5_charAt_5068e_9 : decode cJ5_charAt_5068e 9 = .ok (.astore_n 3, 1) := by decide +kernel
theorem dJ5_charAt_5068e_10 : decode cJ5_charAt_5068e 10 = .ok (.aload_n 0, 1) := by decide +kernel
theorem dJ5_charAt_5068e_11 : decode cJ5_charAt_5068e 11 = .ok (.getfield 79, 3) := by decide +kernel
theorem dJ5_charAt_5068e_14 : decode cJ5_charAt_5068e 14 = .ok (.aload_n 3, 1) := by decide +kernel
theorem dJ5_charAt_5068e_15 : decode cJ5_charAt_5068e 15 = .ok (.arraylength, 1) := by decide +kernel
theorem dJ5_charAt_5068e_16 : decode cJ5_charAt_5068e 16 = .ok (.iload_n 2, 1) := by decide +kernel
theorem dJ5_charAt_5068e_17 : decode cJ5_charAt_5068e 17 = .ok (.ishr, 1) := by decide +kernel
theorem dJ5_charAt_5068e_18 : decode cJ5_charAt_5068e 18 = .ok (.invokestatic 138, 3) := by decide +kernel
theorem dJ5_charAt_5068e_21 : decode cJ5_charAt_5068e 21 = .ok (.istore 4, 2) := by decide +kernel
theorem dJ5_charAt_5068e_23 : decode cJ5_charAt_5068e 23 = .ok (.iload_n 1, 1) := by decide +kernel
theorem dJ5_charAt_5068e_24 : decode cJ5_charAt_5068e 24 = .ok (.iload 4, 2) := by decide +kernel
theorem dJ5_charAt_5068e_26 : decode cJ5_charAt_5068e 26 = .ok (.invokestatic 144, 3) := by decide +kernel
theorem dJ5_charAt_5068e_29 : decode cJ5_charAt_5068e 29 = .ok (.iload_n 2, 1) := by decide +kernel
theorem dJ5_charAt_5068e_30 : decode cJ5_charAt_5068e 30 = .ok (.ifCond .ne 12, 3) := by decide +kernel
theorem dJ5_charAt_5068e_33 : decode cJ5_charAt_5068e 33 = .ok (.aload_n 3, 1) := by decide +kernel
theorem dJ5_charAt_5068e_34 : decode cJ5_charAt_5068e 34 = .ok (.iload_n 1, 1) := by decide +kernel
theorem dJ5_charAt_5068e_35 : decode cJ5_charAt_5068e 35 = .ok (.baload, 1) := by decide +kernel
theorem dJ5_charAt_5068e_36 : decode cJ5_charAt_5068e 36 = .ok (.sipush 255, 3) := by decide +kernel
theorem dJ5_charAt_5068e_39 : decode cJ5_charAt_5068e 39 = .ok (.iand, 1) := by decide +kernel
theorem dJ5_charAt_5068e_40 : decode cJ5_charAt_5068e 40 = .ok (.i2c, 1) := by decide +kernel
theorem dJ5_charAt_5068e_41 : decode cJ5_charAt_5068e 41 = .ok (.ireturn, 1) := by decide +kernel
theorem dJ5_charAt_5068e_42 : decode cJ5_charAt_5068e 42 = .ok (.aload_n 3, 1) := by decide +kernel
theorem dJ5_charAt_5068e_43 : decode cJ5_charAt_5068e 43 = .ok (.iload_n 1, 1) := by decide +kernel
theorem dJ5_charAt_5068e_44 : decode cJ5_charAt_5068e 44 = .ok (.invokestatic 148, 3) := by decide +kernel
theorem dJ5_charAt_5068e_47 : decode cJ5_charAt_5068e 47 = .ok (.ireturn, 1) := by decide +kernel
theorem dJ0_checkIndex_df160_0 : decode cJ0_checkIndex_df160 0 = .ok (.iload_n 0, 1) := by decide +kernel
theorem dJ0_checkIndex_df160_1 : decode cJ0_checkIndex_df160 1 = .ok (.iload_n 1, 1) := by decide +kernel
theorem dJ0_checkIndex_df160_2 : decode cJ0_checkIndex_df160 2 = .ok (.getstatic 1053, 3) := by decide +kernel
theorem dJ0_checkIndex_df160_5 : decode cJ0_checkIndex_df160 5 = .ok (.invokestatic 1059, 3) := by decide +kernel
theorem dJ0_checkIndex_df160_8 : decode cJ0_checkIndex_df160 8 = .ok (.pop, 1) := by decide +kernel
theorem dJ0_checkIndex_df160_9 : decode cJ0_checkIndex_df160 9 = .ok (.return_, 1) := by decide +kernel
theorem dJ3_checkIndex_8e157_0 : decode cJ3_checkIndex_8e157 0 = .ok (.iload_n 0, 1) := by decide +kernel
theorem dJ3_checkIndex_8e157_1 : decode cJ3_checkIndex_8e157 1 = .ok (.ifCond .lt 8, 3) := by decide +kernel
theorem dJ3_checkIndex_8e157_4 : decode cJ3_checkIndex_8e157 4 = .ok (.iload_n 0, 1) := by decide +kernel
theorem dJ3_checkIndex_8e157_5 : decode cJ3_checkIndex_8e157 5 = .ok (.iload_n 1, 1) := by decide +kernel
theorem dJ3_checkIndex_8e157_6 : decode cJ3_checkIndex_8e157 6 = .ok (.if_icmp .lt 10, 3) := by decide +kernel
theorem dJ3_checkIndex_8e157_9 : decode cJ3_checkIndex_8e157 9 = .ok (.aload_n 2, 1) := by decide +kernel
theorem dJ3_checkIndex_8e157_10 : decode cJ3_checkIndex_8e157 10 = .ok (.iload_n 0, 1) := by decide +kernel
theorem dJ3_checkIndex_8e157_11 : decode cJ3_checkIndex_8e157 11 = .ok (.iload_n 1, 1) := by decide +kernel
theorem dJ3_checkIndex_8e157_12 : decode cJ3_checkIndex_8e157 12 = .ok (.invokestatic 95, 3) := by decide +kernel
theorem dJ3_checkIndex_8e157_15 : decode cJ3_checkIndex_8e157 15 = .ok (.athrow, 1) := by decide +kernel
theorem dJ3_checkIndex_8e157_16 : decode cJ3_checkIndex_8e157 16 = .ok (.iload_n 0, 1) := by decide +kernel
theorem dJ3_checkIndex_8e157_17 : decode cJ3_checkIndex_8e157 17 = .ok (.ireturn, 1) := by decide +kernel
theorem dJ5_isLatin1_aae02_0 : decode cJ5_isLatin1_aae02 0 = .ok (.getstatic 18, 3) := by decide +kernel
theorem dJ5_isLatin1_aae02_3 : decode cJ5_isLatin1_aae02 3 = .ok (.ifCond .eq 14, 3) := by decide +kernel
theorem dJ5_isLatin1_aae02_6 : decode cJ5_isLatin1_aae02 6 = .ok (.aload_n 0, 1) := by decide +kernel
theorem dJ5_isLatin1_aae02_7 : decode cJ5_isLatin1_aae02 7 = .ok (.getfield 22, 3) := by decide +kernel
theorem dJ5_isLatin1_aae02_10 : decode cJ5_isLatin1_aae02 10 = .ok (.ifCond .ne 7, 3) := by decide +kernel
theorem dJ5_isLatin1_aae02_13 : decode cJ5_isLatin1_aae02 13 = .ok (.iconst 1, 1) := by decide +kernel
theorem dJ5_isLatin1_aae02_14 : decode cJ5_isLatin1_aae02 14 = .ok (.goto 4, 3) := by decide +kernel
theorem dJ5_isLatin1_aae02_17 : decode cJ5_isLatin1_aae02 17 = .ok (.iconst 0, 1) := by decide +kernel
theorem dJ5_isLatin1_aae02_18 : decode cJ5_isLatin1_aae02 18 = .ok (.ireturn, 1) := by decide +kernel
theorem dJ4_setLength_d00df_0 : decode cJ4_setLength_d00df 0 = .ok (.aload_n 0, 1) := by decide +kernel
theorem dJ4_setLength_d00df_1 : decode cJ4_setLength_d00df 1 = .ok (.iload_n 1, 1) := by decide +kernel
theorem dJ4_setLength_d00df_2 : decode cJ4_setLength_d00df 2 = .ok (.invokespecial 333, 3) := by decide +kernel
theorem dJ4_setLength_d00df_5 : decode cJ4_setLength_d00df 5 = .ok (.return_, 1) := by decide +kernel
theorem dJ5_setLength_d00df_0 : decode cJ5_setLength_d00df 0 = .ok (.iload_n 1, 1) := by decide +kernel
theorem dJ5_setLength_d00df_1 : decode cJ5_setLength_d00df 1 = .ok (.ifCond .ge 12, 3) := by decide +kernel
theorem dJ5_setLength_d00df_4 : decode cJ5_setLength_d00df 4 = .ok (.new 129, 3) := by decide +kernel
theorem dJ5_setLength_d00df_7 : decode cJ5_setLength_d00df 7 = .ok (.dup, 1) := by decide +kernel
theorem dJ5_setLength_d00df_8 : decode cJ5_setLength_d00df 8 = .ok (.iload_n 1, 1) := by decide +kernel
theorem dJ5_setLength_d00df_9 : decode cJ5_setLength_d00df 9 = .ok (.invokespecial 131, 3) := by decide +kernel
theorem dJ5_setLength_d00df_12 : decode cJ5_setLength_d00df 12 = .ok (.athrow, 1) := by decide +kernel
theorem dJ5_setLength_d00df_13 : decode cJ5_setLength_d00df 13 = .ok (.aload_n 0, 1) := by decide +kernel
theorem dJ5_setLength_d00df_14 : decode cJ5_setLength_d00df 14 = .ok (.iload_n 1, 1) := by decide +kernel
theorem dJ5_setLength_d00df_15 : decode cJ5_setLength_d00df 15 = .ok (.invokevirtual 100, 3) := by decide +kernel
theorem dJ5_setLength_d00df_18 : decode cJ5_setLength_d00df 18 = .ok (.aload_n 0, 1) := by decide +kernel
theorem dJ5_setLength_d00df_19 : decode cJ5_setLength_d00df 19 = .ok (.getfield 79, 3) := by decide +kernel
theorem dJ5_setLength_d00df_22 : decode cJ5_setLength_d00df 22 = .ok (.iload_n 1, 1) := by decide +kernel
theorem dJ5_setLength_d00df_23 : decode cJ5_setLength_d00df 23 = .ok (.if_icmp .ge 40, 3) := by decide +kernel
theorem dJ5_setLength_d00df_26 : decode cJ5_setLength_d00df 26 = .ok (.aload_n 0, 1) := by decide +kernel
theorem dJ5_setLength_d00df_27 : decode cJ5_setLength_d00df 27 = .ok (.invokevirtual 83, 3) := by decide +kernel
theorem dJ5_setLength_d00df_30 : decode cJ5_setLength_d00df 30 = .ok (.ifCond .eq 18, 3) := by decide +kernel
theorem dJ5_setLength_d00df_33 : decode cJ5_setLength_d00df 33 = .ok (.aload_n 0, 1) := by decide +kernel
theorem dJ5_setLength_d00df_34 : decode cJ5_setLength_d00df 34 = .ok (.getfield 15, 3) := by decide +kernel
theorem dJ5_setLength_d00df_37 : decode cJ5_setLength_d00df 37 = .ok (.aload_n 0, 1) := by decide +kernel
theorem dJ5_setLength_d00df_38 : decode cJ5_setLength_d00df 38 = .ok (.getfield 79, 3) := by decide +kernel
theorem dJ5_setLength_d00df_41 : decode cJ5_setLength_d00df 41 = .ok (.iload_n 1, 1) := by decide +kernel
theorem dJ5_setLength_d00df_42 : decode cJ5_setLength_d00df 42 = .ok (.invokestatic 133, 3) := by decide +kernel
theorem dJ5_setLength_d00df_45 : decode cJ5_setLength_d00df 45 = .ok (.goto 31, 3) := by decide +kernel
theorem dJ5_setLength_d00df_48 : decode cJ5_setLength_d00df 48 = .ok (.aload_n 0, 1) := by decide +kernel
theorem dJ5_setLength_d00df_49 : decode cJ5_setLength_d00df 49 = .ok (.getfield 15, 3) := by decide +kernel
theorem dJ5_setLength_d00df_52 : decode cJ5_setLength_d00df 52 = .ok (.aload_n 0, 1) := by decide +kernel
theorem dJ5_setLength_d00df_53 : decode cJ5_setLength_d00df 53 = .ok (.getfield 79, 3) := by decide +kernel
theorem dJ5_setLength_d00df_56 : decode cJ5_setLength_d00df 56 = .ok (.iload_n 1, 1) := by decide +kernel
theorem dJ5_setLength_d00df_57 : decode cJ5_setLength_d00df 57 = .ok (.invokestatic 137, 3) := by decide +kernel
theorem dJ5_setLength_d00df_60 : decode cJ5_setLength_d00df 60 = .ok (.goto 16, 3) := by decide +kernel
theorem dJ5_setLength_d00df_63 : decode cJ5_setLength_d00df 63 = .ok (.aload_n 0, 1) := by decide +kernel
theorem dJ5_setLength_d00df_64 : decode cJ5_setLength_d00df 64 = .ok (.getfield 79, 3) := by decide +kernel
theorem dJ5_setLength_d00df_67 : decode cJ5_setLength_d00df 67 = .ok (.iload_n 1, 1) := by decide +kernel
theorem dJ5_setLength_d00df_68 : decode cJ5_setLength_d00df 68 = .ok (.if_icmp .le 8, 3) := by decide +kernel
theorem dJ5_setLength_d00df_71 : decode cJ5_setLength_d00df 71 = .ok (.aload_n 0, 1) := by decide +kernel
theorem dJ5_setLength_d00df_72 : decode cJ5_setLength_d00df 72 = .ok (.iconst 1, 1) := by decide +kernel
theorem dJ5_setLength_d00df_73 : decode cJ5_setLength_d00df 73 = .ok (.putfield 73, 3) := by decide +kernel
theorem dJ5_setLength_d00df_76 : decode cJ5_setLength_d00df 76 = .ok (.aload_n 0, 1) := by decide +kernel
theorem dJ5_setLength_d00df_77 : decode cJ5_setLength_d00df 77 = .ok (.iload_n 1, 1) := by decide +kernel
theorem dJ5_setLength_d00df_78 : decode cJ5_setLength_d00df 78 = .ok (.putfield 79, 3) := by decide +kernel
theorem dJ5_setLength_d00df_81 : decode cJ5_setLength_d00df 81 = .ok (.return_, 1) := by decide +kernel
theorem dJ5_ensureCapacityInternal_d00df_0 : decode cJ5_ensureCapacityInternal_d00df 0 = .ok (.aload_n 0, 1) := by decide +kernel
theorem dJ5_ensureCapacityInternal_d00df_1 : decode cJ5_ensureCapacityInternal_d00df 1 = .ok (.getfield 15, 3) := by decide +kernel
theorem dJ5_ensureCapacityInternal_d00df_4 : decode cJ5_ensureCapacityInternal_d00df 4 = .ok (.arraylength, 1) := by decide +kernel
theorem dJ5_ensureCapacityInternal_d00df_5 : decode cJ5_ensureCapacityInternal_d00df 5 = .ok (.aload_n 0, 1) := by decide +kernel
theorem dJ5_ensureCapacityInternal_d00df_6 : decode cJ5_ensureCapacityInternal_d00df 6 = .ok (.getfield 22, 3) := by decide +kernel
theorem dJ5_ensureCapacityInternal_d00df_9 : decode cJ5_ensureCapacityInternal_d00df 9 = .ok (.ishr, 1) := by decide +kernel
theorem dJ5_ensureCapacityInternal_d00df_10 : decode cJ5_ensureCapacityInternal_d00df 10 = .ok (.istore_n 2, 1) := by decide +kernel
theorem dJ5_ensureCapacityInternal_d00df_11 : decode cJ5_ensureCapacityInternal_d00df 11 = .ok (.iload_n 1, 1) := by decide +kernel
theorem dJ5_ensureCapacityInternal_d00df_12 : decode cJ5_ensureCapacityInternal_d00df 12 = .ok (.iload_n 2, 1) := by decide +kernel
theorem dJ5_ensureCapacityInternal_d00df_13 : decode cJ5_ensureCapacityInternal_d00df 13 = .ok (.isub, 1) := by decide +kernel
theorem dJ5_ensureCapacityInternal_d00df_14 : decode cJ5_ensureCapacityInternal_d00df 14 = .ok (.ifCond .le 24, 3) := by decide +kernel
theorem dJ5_ensureCapacityInternal_d00df_17 : decode cJ5_ensureCapacityInternal_d00df 17 = .ok (.aload_n 0, 1) := by decide +kernel
theorem dJ5_ensureCapacityInternal_d00df_18 : decode cJ5_ensureCapacityInternal_d00df 18 = .ok (.aload_n 0, 1) := by decide +kernel
theorem dJ5_ensureCapacityInternal_d00df_19 : decode cJ5_ensureCapacityInternal_d00df 19 = .ok (.getfield 15, 3) := by decide +kernel
theorem dJ5_ensureCapacityInternal_d00df_22 : decode cJ5_ensureCapacityInternal_d00df 22 = .ok (.aload_n 0, 1) := by decide +kernel
theorem dJ5_ensureCapacityInternal_d00df_23 : decode cJ5_ensureCapacityInternal_d00df 23 = .ok (.iload_n 1, 1) := by decide +kernel
theorem dJ5_ensureCapacityInternal_d00df_24 : decode cJ5_ensureCapacityInternal_d00df 24 = .ok (.invokevirtual 104, 3) := by decide +kernel
theorem dJ5_ensureCapacityInternal_d00df_27 : decode cJ5_ensureCapacityInternal_d00df 27 = .ok (.aload_n 0, 1) := by decide +kernel
theorem dJ5_ensureCapacityInternal_d00df_28 : decode cJ5_ensureCapacityInternal_d00df 28 = .ok (.getfield 22, 3) := by decide +kernel
theorem dJ5_ensureCapacityInternal_d00df_31 : decode cJ5_ensureCapacityInternal_d00df 31 = .ok (.ishl, 1) := by decide +kernel
theorem dJ5_ensureCapacityInternal_d00df_32 : decode cJ5_ensureCapacityInternal_d00df 32 = .ok (.invokestatic 108, 3) := by decide +kernel
theorem dJ5_ensureCapacityInternal_d00df_35 : decode cJ5_ensureCapacityInternal_d00df 35 = .ok (.putfield 15, 3) := by decide +kernel
theorem dJ5_ensureCapacityInternal_d00df_38 : decode cJ5_ensureCapacityInternal_d00df 38 = .ok (.return_, 1) := by decide +kernel
theorem dJ5_newCapacity_0f7a4_0 : decode cJ5_newCapacity_0f7a4 0 = .ok (.aload_n 0, 1) := by decide +kernel
theorem dJ5_newCapacity_0f7a4_1 : decode cJ5_newCapacity_0f7a4 1 = .ok (.getfield 15, 3) := by decide +kernel
theorem dJ5_newCapacity_0f7a4_4 : decode cJ5_newCapacity_0f7a4 4 = .ok (.arraylength, 1) := by decide +kernel
theorem dJ5_newCapacity_0f7a4_5 : decode cJ5_newCapacity_0f7a4 5 = .ok (.istore_n 2, 1) := by decide +kernel
theorem dJ5_newCapacity_0f7a4_6 : decode cJ5_newCapacity_0f7a4 6 = .ok (.iload_n 1, 1) := by decide +kernel
theorem dJ5_newCapacity_0f7a4_7 : decode cJ5_newCapacity_0f7a4 7 = .ok (.aload_n 0, 1) := by decide +kernel
theorem dJ5_newCapacity_0f7a4_8 : decode cJ5_newCapacity_0f7a4 8 = .ok (.getfield 22, 3) := by decide +kernel
theorem dJ5_newCapacity_0f7a4_11 : decode cJ5_newCapacity_0f7a4 11 = .ok (.ishl, 1) := by decide +kernel
theorem dJ5_newCapacity_0f7a4_12 : decode cJ5_newCapacity_0f7a4 12 = .ok (.istore_n 3, 1) := by decide +kernel
theorem dJ5_newCapacity_0f7a4_13 : decode cJ5_newCapacity_0f7a4 13 = .ok (.iload_n 3, 1) := by decide +kernel
theorem dJ5_newCapacity_0f7a4_14 : decode cJ5_newCapacity_0f7a4 14 = .ok (.iload_n 2, 1) := by decide +kernel
theorem dJ5_newCapacity_0f7a4_15 : decode cJ5_newCapacity_0f7a4 15 = .ok (.isub, 1) := by decide +kernel
theorem dJ5_newCapacity_0f7a4_16 : decode cJ5_newCapacity_0f7a4 16 = .ok (.istore 4, 2) := by decide +kernel
theorem dJ5_newCapacity_0f7a4_18 : decode cJ5_newCapacity_0f7a4 18 = .ok (.iload_n 2, 1) := by decide +kernel
theorem dJ5_newCapacity_0f7a4_19 : decode cJ5_newCapacity_0f7a4 19 = .ok (.iload 4, 2) := by decide +kernel
theorem dJ5_newCapacity_0f7a4_21 : decode cJ5_newCapacity_0f7a4 21 = .ok (.iload_n 2, 1) := by decide +kernel
theorem dJ5_newCapacity_0f7a4_22 : decode cJ5_newCapacity_0f7a4 22 = .ok (.iconst 2, 1) := by decide +kernel
theorem dJ5_newCapacity_0f7a4_23 : decode cJ5_newCapacity_0f7a4 23 = .ok (.aload_n 0, 1) := by decide +kernel
theorem dJ5_newCapacity_0f7a4_24 : decode cJ5_newCapacity_0f7a4 24 = .ok (.getfield 22, 3) := by decide +kernel
theorem dJ5_newCapacity_0f7a4_27 : decode cJ5_newCapacity_0f7a4 27 = .ok (.ishl, 1) := by decide +kernel
theorem dJ5_newCapacity_0f7a4_28 : decode cJ5_newCapacity_0f7a4 28 = .ok (.iadd, 1) := by decide +kernel
theorem dJ5_newCapacity_0f7a4_29 : decode cJ5_newCapacity_0f7a4 29 = .ok (.invokestatic 114, 3) := by decide +kernel
theorem dJ5_newCapacity_0f7a4_32 : decode cJ5_newCapacity_0f7a4 32 = .ok (.istore 5, 2) := by decide +kernel
theorem dJ5_newCapacity_0f7a4_34 : decode cJ5_newCapacity_0f7a4 34 = .ok (.iload 5, 2) := by decide +kernel
theorem dJ5_newCapacity_0f7a4_36 : decode cJ5_newCapacity_0f7a4 36 = .ok (.ldc 39, 2) := by decide +kernel
theorem dJ5_newCapacity_0f7a4_38 : decode cJ5_newCapacity_0f7a4 38 = .ok (.if_icmp .ne 13, 3) := by decide +kernel
theorem dJ5_newCapacity_0f7a4_41 : decode cJ5_newCapacity_0f7a4 41 = .ok (.new 120, 3) := by decide +kernel
theorem dJ5_newCapacity_0f7a4_44 : decode cJ5_newCapacity_0f7a4 44 = .ok (.dup, 1) := by decide +kernel
theorem dJ5_newCapacity_0f7a4_45 : decode cJ5_newCapacity_0f7a4 45 = .ok (.ldc 122, 2) := by decide +kernel
theorem dJ5_newCapacity_0f7a4_47 : decode cJ5_newCapacity_0f7a4 47 = .ok (.invokespecial 124, 3) := by decide +kernel
theorem dJ5_newCapacity_0f7a4_50 : decode cJ5_newCapacity_0f7a4 50 = .ok (.athrow, 1) := by decide +kernel
theorem dJ5_newCapacity_0f7a4_51 : decode cJ5_newCapacity_0f7a4 51 = .ok (.iload 5, 2) := by decide +kernel
theorem dJ5_newCapacity_0f7a4_53 : decode cJ5_newCapacity_0f7a4 53 = .ok (.aload_n 0, 1) := by decide +kernel
theorem dJ5_newCapacity_0f7a4_54 : decode cJ5_newCapacity_0f7a4 54 = .ok (.getfield 22, 3) := by decide +kernel
theorem dJ5_newCapacity_0f7a4_57 : decode cJ5_newCapacity_0f7a4 57 = .ok (.ishr, 1) := by decide +kernel
theorem dJ5_newCapacity_0f7a4_58 : decode cJ5_newCapacity_0f7a4 58 = .ok (.ireturn, 1) := by decide +kernel
theorem dJ8_newLength_cabcc_0 : decode cJ8_newLength_cabcc 0 = .ok (.iload_n 0, 1) := by decide +kernel
theorem dJ8_newLength_cabcc_1 : decode cJ8_newLength_cabcc 1 = .ok (.iload_n 1, 1) := by decide +kernel
theorem dJ8_newLength_cabcc_2 : decode cJ8_newLength_cabcc 2 = .ok (.iload_n 2, 1) := by decide +kernel
theorem dJ8_newLength_cabcc_3 : decode cJ8_newLength_cabcc 3 = .ok (.invokestatic 194, 3) := by decide +kernel
theorem dJ8_newLength_cabcc_6 : decode cJ8_newLength_cabcc 6 = .ok (.iadd, 1) := by decide +kernel
theorem dJ8_newLength_cabcc_7 : decode cJ8_newLength_cabcc 7 = .ok (.istore_n 3, 1) := by decide +kernel
theorem dJ8_newLength_cabcc_8 : decode cJ8_newLength_cabcc 8 = .ok (.iconst 0, 1) := by decide +kernel
theorem dJ8_newLength_cabcc_9 : decode cJ8_newLength_cabcc 9 = .ok (.iload_n 3, 1) := by decide +kernel
theorem dJ8_newLength_cabcc_10 : decode cJ8_newLength_cabcc 10 = .ok (.if_icmp .ge 11, 3) := by decide +kernel
theorem dJ8_newLength_cabcc_13 : decode cJ8_newLength_cabcc 13 = .ok (.iload_n 3, 1) := by decide +kernel
theorem dJ8_newLength_cabcc_14 : decode cJ8_newLength_cabcc 14 = .ok (.ldc 200, 2) := by decide +kernel
theorem dJ8_newLength_cabcc_16 : decode cJ8_newLength_cabcc 16 = .ok (.if_icmp .gt 5, 3) := by decide +kernel
theorem dJ8_newLength_cabcc_19 : decode cJ8_newLength_cabcc 19 = .ok (.iload_n 3, 1) := by decide +kernel
theorem dJ8_newLength_cabcc_20 : decode cJ8_newLength_cabcc 20 = .ok (.ireturn, 1) := by decide +kernel
theorem dJ8_newLength_cabcc_21 : decode cJ8_newLength_cabcc 21 = .ok (.iload_n 0, 1) := by decide +kernel
theorem dJ8_newLength_cabcc_22 : decode cJ8_newLength_cabcc 22 = .ok (.iload_n 1, 1) := by decide +kernel
theorem dJ8_newLength_cabcc_23 : decode cJ8_newLength_cabcc 23 = .ok (.invokestatic 201, 3) := by decide +kernel
theorem dJ8_newLength_cabcc_26 : decode cJ8_newLength_cabcc 26 = .ok (.ireturn, 1) := by decide +kernel
theorem dJ7_copyOf_9075b_0 : decode cJ7_copyOf_9075b 0 = .ok (.iload_n 1, 1) := by decide +kernel
theorem dJ7_copyOf_9075b_1 : decode cJ7_copyOf_9075b 1 = .ok (.aload_n 0, 1) := by decide +kernel
theorem dJ7_copyOf_9075b_2 : decode cJ7_copyOf_9075b 2 = .ok (.arraylength, 1) := by decide +kernel
theorem dJ7_copyOf_9075b_3 : decode cJ7_copyOf_9075b 3 = .ok (.if_icmp .ne 11, 3) := by decide +kernel
theorem dJ7_copyOf_9075b_6 : decode cJ7_copyOf_9075b 6 = .ok (.aload_n 0, 1) := by decide +kernel
theorem dJ7_copyOf_9075b_7 : decode cJ7_copyOf_9075b 7 = .ok (.invokevirtual 310, 3) := by decide +kernel
theorem dJ7_copyOf_9075b_10 : decode cJ7_copyOf_9075b 10 = .ok (.checkcast 311, 3) := by decide +kernel
theorem dJ7_copyOf_9075b_13 : decode cJ7_copyOf_9075b 13 = .ok (.areturn, 1) := by decide +kernel
theorem dJ7_copyOf_9075b_14 : decode cJ7_copyOf_9075b 14 = .ok (.iload_n 1, 1) := by decide +kernel
theorem dJ7_copyOf_9075b_15 : decode cJ7_copyOf_9075b 15 = .ok (.newarray .byte, 2) := by decide +kernel
theorem dJ7_copyOf_9075b_17 : decode cJ7_copyOf_9075b 17 = .ok (.astore_n 2, 1) := by decide +kernel
theorem dJ7_copyOf_9075b_18 : decode cJ7_copyOf_9075b 18 = .ok (.aload_n 0, 1) := by decide +kernel
theorem dJ7_copyOf_9075b_19 : decode cJ7_copyOf_9075b 19 = .ok (.iconst 0, 1) := by decide +kernel
theorem dJ7_copyOf_9075b_20 : decode cJ7_copyOf_9075b 20 = .ok (.aload_n 2, 1) := by decide +kernel
theorem dJ7_copyOf_9075b_21 : decode cJ7_copyOf_9075b 21 = .ok (.iconst 0, 1) := by decide +kernel
theorem dJ7_copyOf_9075b_22 : decode cJ7_copyOf_9075b 22 = .ok (.aload_n 0, 1) := by decide +kernel
theorem dJ7_copyOf_9075b_23 : decode cJ7_copyOf_9075b 23 = .ok (.arraylength, 1) := by decide +kernel
theorem dJ7_copyOf_9075b_24 : decode cJ7_copyOf_9075b 24 = .ok (.iload_n 1, 1) := by decide +kernel
theorem dJ7_copyOf_9075b_25 : decode cJ7_copyOf_9075b 25 = .ok (.invokestatic 304, 3) := by decide +kernel
theorem dJ7_copyOf_9075b_28 : decode cJ7_copyOf_9075b 28 = .ok (.invokestatic 150, 3) := by decide +kernel
theorem dJ7_copyOf_9075b_31 : decode cJ7_copyOf_9075b 31 = .ok (.aload_n 2, 1) := by decide +kernel
theorem dJ7_copyOf_9075b_32 : decode cJ7_copyOf_9075b 32 = .ok (.areturn, 1) := by decide +kernel
theorem dJ4_append_15ec4_0 : decode cJ4_append_15ec4 0 = .ok (.aload_n 0, 1) := by decide +kernel
theorem dJ4_append_15ec4_1 : decode cJ4_append_15ec4 1 = .ok (.aload_n 1, 1) := by decide +kernel
theorem dJ4_append_15ec4_2 : decode cJ4_append_15ec4 2 = .ok (.invokespecial 29, 3) := by decide +kernel
theorem dJ4_append_15ec4_5 : decode cJ4_append_15ec4 5 = .ok (.pop, 1) := by decide +kernel
theorem dJ4_append_15ec4_6 : decode cJ4_append_15ec4 6 = .ok (.aload_n 0, 1) := by decide +kernel
theorem dJ4_append_15ec4_7 : decode cJ4_append_15ec4 7 = .ok (.areturn, 1) := by decide +kernel
theorem dJ4_append_cf468_0 : decode cJ4_append_cf468 0 = .ok (.aload_n 0, 1) := by decide +kernel
theorem dJ4_append_cf468_1 : decode cJ4_append_cf468 1 = .ok (.iload_n 1, 1) := by decide +kernel
theorem dJ4_append_cf468_2 : decode cJ4_append_cf468 2 = .ok (.invokespecial 50, 3) := by decide +kernel
theorem dJ4_append_cf468_5 : decode cJ4_append_cf468 5 = .ok (.pop, 1) := by decide +kernel
theorem dJ4_append_cf468_6 : decode cJ4_append_cf468 6 = .ok (.aload_n 0, 1) := by decide +kernel
theorem dJ4_append_cf468_7 : decode cJ4_append_cf468 7 = .ok (.areturn, 1) := by decide +kernel
theorem dJ4_append_bf812_0 : decode cJ4_append_bf812 0 = .ok (.aload_n 0, 1) := by decide +kernel
theorem dJ4_append_bf812_1 : decode cJ4_append_bf812 1 = .ok (.iload_n 1, 1) := by decide +kernel
theorem dJ4_append_bf812_2 : decode cJ4_append_bf812 2 = .ok (.invokespecial 53, 3) := by decide +kernel
theorem dJ4_append_bf812_5 : decode cJ4_append_bf812 5 = .ok (.pop, 1) := by decide +kernel
theorem dJ4_append_bf812_6 : decode cJ4_append_bf812 6 = .ok (.aload_n 0, 1) := by decide +kernel
theorem dJ4_append_bf812_7 : decode cJ4_append_bf812 7 = .ok (.areturn, 1) := by decide +kernel
theorem dJ5_append_cf1ce_0 : decode cJ5_append_cf1ce 0 = .ok (.aload_n 1, 1) := by decide +kernel
theorem dJ5_append_cf1ce_1 : decode cJ5_append_cf1ce 1 = .ok (.ifnonnull 8, 3) := by decide +kernel
theorem dJ5_append_cf1ce_4 : decode cJ5_append_cf1ce 4 = .ok (.aload_n 0, 1) := by decide +kernel
theorem dJ5_append_cf1ce_5 : decode cJ5_append_cf1ce 5 = .ok (.invokevirtual 204, 3) := by decide +kernel
theorem dJ5_append_cf1ce_8 : decode cJ5_append_cf1ce 8 = .ok (.areturn, 1) := by decide +kernel
theorem dJ5_append_cf1ce_9 : decode cJ5_append_cf1ce 9 = .ok (.aload_n 1, 1) := by decide +kernel
theorem dJ5_append_cf1ce_10 : decode cJ5_append_cf1ce 10 = .ok (.invokevirtual 32, 3) := by decide +kernel
theorem dJ5_append_cf1ce_13 : decode cJ5_append_cf1ce 13 = .ok (.istore_n 2, 1) := by decide +kernel
theorem dJ5_append_cf1ce_14 : decode cJ5_append_cf1ce 14 = .ok (.aload_n 0, 1) := by decide +kernel
theorem dJ5_append_cf1ce_15 : decode cJ5_append_cf1ce 15 = .ok (.aload_n 0, 1) := by decide +kernel
theorem dJ5_append_cf1ce_16 : decode cJ5_append_cf1ce 16 = .ok (.getfield 79, 3) := by decide +kernel
theorem dJ5_append_cf1ce_19 : decode cJ5_append_cf1ce 19 = .ok (.iload_n 2, 1) := by decide +kernel
theorem dJ5_append_cf1ce_20 : decode cJ5_append_cf1ce 20 = .ok (.iadd, 1) := by decide +kernel
theorem dJ5_append_cf1ce_21 : decode cJ5_append_cf1ce 21 = .ok (.invokevirtual 100, 3) := by decide +kernel
theorem dJ5_append_cf1ce_24 : decode cJ5_append_cf1ce 24 = .ok (.aload_n 0, 1) := by decide +kernel
theorem dJ5_append_cf1ce_25 : decode cJ5_append_cf1ce 25 = .ok (.aload_n 0, 1) := by decide +kernel
theorem dJ5_append_cf1ce_26 : decode cJ5_append_cf1ce 26 = .ok (.getfield 79, 3) := by decide +kernel
theorem dJ5_append_cf1ce_29 : decode cJ5_append_cf1ce 29 = .ok (.aload_n 1, 1) := by decide +kernel
theorem dJ5_append_cf1ce_30 : decode cJ5_append_cf1ce 30 = .ok (.invokevirtual 208, 3) := by decide +kernel
theorem dJ5_append_cf1ce_33 : decode cJ5_append_cf1ce 33 = .ok (.aload_n 0, 1) := by decide +kernel
theorem dJ5_append_cf1ce_34 : decode cJ5_append_cf1ce 34 = .ok (.dup, 1) := by decide +kernel
theorem dJ5_append_cf1ce_35 : decode cJ5_append_cf1ce 35 = .ok (.getfield 79, 3) := by decide +kernel
theorem dJ5_append_cf1ce_38 : decode cJ5_append_cf1ce 38 = .ok (.iload_n 2, 1) := by decide +kernel
theorem dJ5_append_cf1ce_39 : decode cJ5_append_cf1ce 39 = .ok (.iadd, 1) := by decide +kernel
theorem dJ5_append_cf1ce_40 : decode cJ5_append_cf1ce 40 = .ok (.putfield 79, 3) := by decide +kernel
theorem dJ5_append_cf1ce_43 : decode cJ5_append_cf1ce 43 = .ok (.aload_n 0, 1) := by decide +kernel
theorem dJ5_append_cf1ce_44 : decode cJ5_append_cf1ce 44 = .ok (.areturn, 1) := by decide +kernel
theorem dJ5_append_3fe6f_0 : decode cJ5_append_3fe6f 0 = .ok (.aload_n 0, 1) := by decide +kernel
theorem dJ5_append_3fe6f_1 : decode cJ5_append_3fe6f 1 = .ok (.aload_n 0, 1) := by decide +kernel
theorem dJ5_append_3fe6f_2 : decode cJ5_append_3fe6f 2 = .ok (.getfield 79, 3) := by decide +kernel
theorem dJ5_append_3fe6f_5 : decode cJ5_append_3fe6f 5 = .ok (.iconst 1, 1) := by decide +kernel
theorem dJ5_append_3fe6f_6 : decode cJ5_append_3fe6f 6 = .ok (.iadd, 1) := by decide +kernel
theorem dJ5_append_3fe6f_7 : decode cJ5_append_3fe6f 7 = .ok (.invokevirtual 100, 3) := by decide +kernel
theorem dJ5_append_3fe6f_10 : decode cJ5_append_3fe6f 10 = .ok (.aload_n 0, 1) := by decide +kernel
theorem dJ5_append_3fe6f_11 : decode cJ5_append_3fe6f 11 = .ok (.invokevirtual 83, 3) := by decide +kernel
theorem dJ5_append_3fe6f_14 : decode cJ5_append_3fe6f 14 = .ok (.ifCond .eq 31, 3) := by decide +kernel
theorem dJ5_append_3fe6f_17 : decode cJ5_append_3fe6f 17 = .ok (.iload_n 1, 1) := by decide +kernel
theorem dJ5_append_3fe6f_18 : decode cJ5_append_3fe6f 18 = .ok (.invokestatic 191, 3) := by decide +kernel
theorem dJ5_append_3fe6f_21 : decode cJ5_append_3fe6f 21 = .ok (.ifCond .eq 24, 3) := by decide +kernel
theorem dJ5_append_3fe6f_24 : decode cJ5_append_3fe6f 24 = .ok (.aload_n 0, 1) := by decide +kernel
theorem dJ5_append_3fe6f_25 : decode cJ5_append_3fe6f 25 = .ok (.getfield 15, 3) := by decide +kernel
theorem dJ5_append_3fe6f_28 : decode cJ5_append_3fe6f 28 = .ok (.aload_n 0, 1) := by decide +kernel
theorem dJ5_append_3fe6f_29 : decode cJ5_append_3fe6f 29 = .ok (.dup, 1) := by decide +kernel
theorem dJ5_append_3fe6f_30 : decode cJ5_append_3fe6f 30 = .ok (.getfield 79, 3) := by decide +kernel
theorem dJ5_append_3fe6f_33 : decode cJ5_append_3fe6f 33 = .ok (.dup_x1, 1) := by decide +kernel
theorem dJ5_append_3fe6f_34 : decode cJ5_append_3fe6f 34 = .ok (.iconst 1, 1) := by decide +kernel
theorem dJ5_append_3fe6f_35 : decode cJ5_append_3fe6f 35 = .ok (.iadd, 1) := by decide +kernel
theorem dJ5_append_3fe6f_36 : decode cJ5_append_3fe6f 36 = .ok (.putfield 79, 3) := by decide +kernel
theorem dJ5_append_3fe6f_39 : decode cJ5_append_3fe6f 39 = .ok (.iload_n 1, 1) := by decide +kernel
theorem dJ5_append_3fe6f_40 : decode cJ5_append_3fe6f 40 = .ok (.i2b, 1) := by decide +kernel
theorem dJ5_append_3fe6f_41 : decode cJ5_append_3fe6f 41 = .ok (.bastore, 1) := by decide +kernel
theorem dJ5_append_3fe6f_42 : decode cJ5_append_3fe6f 42 = .ok (.goto 33, 3) := by decide +kernel
theorem dJ5_append_3fe6f_45 : decode cJ5_append_3fe6f 45 = .ok (.aload_n 0, 1) := by decide +kernel
theorem dJ5_append_3fe6f_46 : decode cJ5_append_3fe6f 46 = .ok (.invokevirtual 83, 3) := by decide +kernel
theorem dJ5_append_3fe6f_49 : decode cJ5_append_3fe6f 49 = .ok (.ifCond .eq 7, 3) := by decide +kernel
theorem dJ5_append_3fe6f_52 : decode cJ5_append_3fe6f 52 = .ok (.aload_n 0, 1) := by decide +kernel
theorem dJ5_append_3fe6f_53 : decode cJ5_append_3fe6f 53 = .ok (.invokevirtual 195, 3) := by decide +kernel
theorem dJ5_append_3fe6f_56 : decode cJ5_append_3fe6f 56 = .ok (.aload_n 0, 1) := by decide +kernel
theorem dJ5_append_3fe6f_57 : decode cJ5_append_3fe6f 57 = .ok (.getfield 15, 3) := by decide +kernel
theorem dJ5_append_3fe6f_60 : decode cJ5_append_3fe6f 60 = .ok (.aload_n 0, 1) := by decide +kernel
theorem dJ5_append_3fe6f_61 : decode cJ5_append_3fe6f 61 = .ok (.dup, 1) := by decide +kernel
theorem dJ5_append_3fe6f_62 : decode cJ5_append_3fe6f 62 = .ok (.getfield 79, 3) := by decide +kernel
theorem dJ5_append_3fe6f_65 : decode cJ5_append_3fe6f 65 = .ok (.dup_x1, 1) := by decide +kernel
theorem dJ5_append_3fe6f_66 : decode cJ5_append_3fe6f 66 = .ok (.iconst 1, 1) := by decide +kernel
theorem dJ5_append_3fe6f_67 : decode cJ5_append_3fe6f 67 = .ok (.iadd, 1) := by decide +kernel
theorem dJ5_append_3fe6f_68 : decode cJ5_append_3fe6f 68 = .ok (.putfield 79, 3) := by decide +kernel
theorem dJ5_append_3fe6f_71 : decode cJ5_append_3fe6f 71 = .ok (.iload_n 1, 1) := by decide +kernel
theorem dJ5_append_3fe6f_72 : decode cJ5_append_3fe6f 72 = .ok (.invokestatic 197, 3) := by decide +kernel
theorem dJ5_append_3fe6f_75 : decode cJ5_append_3fe6f 75 = .ok (.aload_n 0, 1) := by decide +kernel
theorem dJ5_append_3fe6f_76 : decode cJ5_append_3fe6f 76 = .ok (.areturn, 1) := by decide +kernel
theorem dJ5_append_c97b9_0 : decode cJ5_append_c97b9 0 = .ok (.aload_n 0, 1) := by decide +kernel
theorem dJ5_append_c97b9_1 : decode cJ5_append_c97b9 1 = .ok (.getfield 79, 3) := by decide +kernel
theorem dJ5_append_c97b9_4 : decode cJ5_append_c97b9 4 = .ok (.istore_n 2, 1) := by decide +kernel
theorem dJ5_append_c97b9_5 : decode cJ5_append_c97b9 5 = .ok (.iload_n 2, 1) := by decide +kernel
theorem dJ5_append_c97b9_6 : decode cJ5_append_c97b9 6 = .ok (.iload_n 1, 1) := by decide +kernel
theorem dJ5_append_c97b9_7 : decode cJ5_append_c97b9 7 = .ok (.invokestatic 245, 3) := by decide +kernel
theorem dJ5_append_c97b9_10 : decode cJ5_append_c97b9 10 = .ok (.iadd, 1) := by decide +kernel
theorem dJ5_append_c97b9_11 : decode cJ5_append_c97b9 11 = .ok (.istore_n 3, 1) := by decide +kernel
theorem dJ5_append_c97b9_12 : decode cJ5_append_c97b9 12 = .ok (.aload_n 0, 1) := by decide +kernel
theorem dJ5_append_c97b9_13 : decode cJ5_append_c97b9 13 = .ok (.iload_n 3, 1) := by decide +kernel
theorem dJ5_append_c97b9_14 : decode cJ5_append_c97b9 14 = .ok (.invokevirtual 100, 3) := by decide +kernel
theorem dJ5_append_c97b9_17 : decode cJ5_append_c97b9 17 = .ok (.aload_n 0, 1) := by decide +kernel
theorem dJ5_append_c97b9_18 : decode cJ5_append_c97b9 18 = .ok (.invokevirtual 83, 3) := by decide +kernel
theorem dJ5_append_c97b9_21 : decode cJ5_append_c97b9 21 = .ok (.ifCond .eq 16, 3) := by decide +kernel
theorem dJ5_append_c97b9_24 : decode cJ5_append_c97b9 24 = .ok (.iload_n 1, 1) := by decide +kernel
theorem dJ5_append_c97b9_25 : decode cJ5_append_c97b9 25 = .ok (.iload_n 3, 1) := by decide +kernel
theorem dJ5_append_c97b9_26 : decode cJ5_append_c97b9 26 = .ok (.aload_n 0, 1) := by decide +kernel
theorem dJ5_append_c97b9_27 : decode cJ5_append_c97b9 27 = .ok (.getfield 15, 3) := by decide +kernel
theorem dJ5_append_c97b9_30 : decode cJ5_append_c97b9 30 = .ok (.invokestatic 248, 3) := by decide +kernel
theorem dJ5_append_c97b9_33 : decode cJ5_append_c97b9 33 = .ok (.pop, 1) := by decide +kernel
theorem dJ5_append_c97b9_34 : decode cJ5_append_c97b9 34 = .ok (.goto 14, 3) := by decide +kernel
theorem dJ5_append_c97b9_37 : decode cJ5_append_c97b9 37 = .ok (.iload_n 1, 1) := by decide +kernel
theorem dJ5_append_c97b9_38 : decode cJ5_append_c97b9 38 = .ok (.iload_n 2, 1) := by decide +kernel
theorem dJ5_append_c97b9_39 : decode cJ5_append_c97b9 39 = .ok (.iload_n 3, 1) := by decide +kernel
theorem dJ5_append_c97b9_40 : decode cJ5_append_c97b9 40 = .ok (.aload_n 0, 1) := by decide +kernel
theorem dJ5_append_c97b9_41 : decode cJ5_append_c97b9 41 = .ok (.getfield 15, 3) := by decide +kernel
theorem dJ5_append_c97b9_44 : decode cJ5_append_c97b9 44 = .ok (.invokestatic 251, 3) := by decide +kernel
theorem dJ5_append_c97b9_47 : decode cJ5_append_c97b9 47 = .ok (.pop, 1) := by decide +kernel
theorem dJ5_append_c97b9_48 : decode cJ5_append_c97b9 48 = .ok (.aload_n 0, 1) := by decide +kernel
theorem dJ5_append_c97b9_49 : decode cJ5_append_c97b9 49 = .ok (.iload_n 3, 1) := by decide +kernel
theorem dJ5_append_c97b9_50 : decode cJ5_append_c97b9 50 = .ok (.putfield 79, 3) := by decide +kernel
theorem dJ5_append_c97b9_53 : decode cJ5_append_c97b9 53 = .ok (.aload_n 0, 1) := by decide +kernel
theorem dJ5_append_c97b9_54 : decode cJ5_append_c97b9 54 = .ok (.areturn, 1) := by decide +kernel
theorem dJ1_canEncode_fc78d_0 : decode cJ1_canEncode_fc78d 0 = .ok (.iload_n 0, 1) := by decide +kernel
theorem dJ1_canEncode_fc78d_1 : decode cJ1_canEncode_fc78d 1 = .ok (.sipush 255, 3) := by decide +kernel
theorem dJ1_canEncode_fc78d_4 : decode cJ1_canEncode_fc78d 4 = .ok (.if_icmp .gt 7, 3) := by decide +kernel
theorem dJ1_canEncode_fc78d_7 : decode cJ1_canEncode_fc78d 7 = .ok (.iconst 1, 1) := by decide +kernel
theorem dJ1_canEncode_fc78d_8 : decode cJ1_canEncode_fc78d 8 = .ok (.goto 4, 3) := by decide +kernel
theorem dJ1_canEncode_fc78d_11 : decode cJ1_canEncode_fc78d 11 = .ok (.iconst 0, 1) := by decide +kernel
theorem dJ1_canEncode_fc78d_12 : decode cJ1_canEncode_fc78d 12 = .ok (.ireturn, 1) := by decide +kernel
theorem dJ0_length_8abf5_0 : decode cJ0_length_8abf5 0 = .ok (.aload_n 0, 1) := by decide +kernel
theorem dJ0_length_8abf5_1 : decode cJ0_length_8abf5 1 = .ok (.getfield 9, 3) := by decide +kernel
theorem dJ0_length_8abf5_4 : decode cJ0_length_8abf5 4 = .ok (.arraylength, 1) := by decide +kernel
theorem dJ0_length_8abf5_5 : decode cJ0_length_8abf5 5 = .ok (.aload_n 0, 1) := by decide +kernel
theorem dJ0_length_8abf5_6 : decode cJ0_length_8abf5 6 = .ok (.invokevirtual 335, 3) := by decide +kernel
theorem dJ0_length_8abf5_9 : decode cJ0_length_8abf5 9 = .ok (.ishr, 1) := by decide +kernel
theorem dJ0_length_8abf5_10 : decode cJ0_length_8abf5 10 = .ok (.ireturn, 1) := by decide +kernel
theorem dJ0_coder_7d493_0 : decode cJ0_coder_7d493 0 = .ok (.getstatic 38, 3) := by decide +kernel
theorem dJ0_coder_7d493_3 : decode cJ0_coder_7d493 3 = .ok (.ifCond .eq 10, 3) := by decide +kernel
theorem dJ0_coder_7d493_6 : decode cJ0_coder_7d493 6 = .ok (.aload_n 0, 1) := by decide +kernel
theorem dJ0_coder_7d493_7 : decode cJ0_coder_7d493 7 = .ok (.getfield 15, 3) := by decide +kernel
theorem dJ0_coder_7d493_10 : decode cJ0_coder_7d493 10 = .ok (.goto 4, 3) := by decide +kernel
theorem dJ0_coder_7d493_13 : decode cJ0_coder_7d493 13 = .ok (.iconst 1, 1) := by decide +kernel
theorem dJ0_coder_7d493_14 : decode cJ0_coder_7d493 14 = .ok (.ireturn, 1) := by decide +kernel
theorem dJ5_putStringAt_47b60_0 : decode cJ5_putStringAt_47b60 0 = .ok (.aload_n 0, 1) := by decide +kernel
theorem dJ5_putStringAt_47b60_1 : decode cJ5_putStringAt_47b60 1 = .ok (.aload_n 2, 1) := by decide +kernel
theorem dJ5_putStringAt_47b60_2 : decode cJ5_putStringAt_47b60 2 = .ok (.invokevirtual 397, 3) := by decide +kernel
theorem dJ5_putStringAt_47b60_5 : decode cJ5_putStringAt_47b60 5 = .ok (.aload_n 2, 1) := by decide +kernel
theorem dJ5_putStringAt_47b60_6 : decode cJ5_putStringAt_47b60 6 = .ok (.aload_n 0, 1) := by decide +kernel
theorem dJ5_putStringAt_47b60_7 : decode cJ5_putStringAt_47b60 7 = .ok (.getfield 15, 3) := by decide +kernel
theorem dJ5_putStringAt_47b60_10 : decode cJ5_putStringAt_47b60 10 = .ok (.iload_n 1, 1) := by decide +kernel
theorem dJ5_putStringAt_47b60_11 : decode cJ5_putStringAt_47b60 11 = .ok (.aload_n 0, 1) := by decide +kernel
theorem dJ5_putStringAt_47b60_12 : decode cJ5_putStringAt_47b60 12 = .ok (.getfield 22, 3) := by decide +kernel
theorem dJ5_putStringAt_47b60_15 : decode cJ5_putStringAt_47b60 15 = .ok (.invokevirtual 399, 3) := by decide +kernel
theorem dJ5_putStringAt_47b60_18 : decode cJ5_putStringAt_47b60 18 = .ok (.return_, 1) := by decide +kernel
theorem dJ5_inflateIfNeededFor_a7421_0 : decode cJ5_inflateIfNeededFor_a7421 0 = .ok (.getstatic 18, 3) := by decide +kernel
theorem dJ5_inflateIfNeededFor_a7421_3 : decode cJ5_inflateIfNeededFor_a7421 3 = .ok (.ifCond .eq 18, 3) := by decide +kernel
theorem dJ5_inflateIfNeededFor_a7421_6 : decode cJ5_inflateIfNeededFor_a7421 6 = .ok (.aload_n 0, 1) := by decide +kernel
theorem dJ5_inflateIfNeededFor_a7421_7 : decode cJ5_inflateIfNeededFor_a7421 7 = .ok (.getfield 22, 3) := by decide +kernel
theorem dJ5_inflateIfNeededFor_a7421_10 : decode cJ5_inflateIfNeededFor_a7421 10 = .ok (.aload_n 1, 1) := by decide +kernel
theorem dJ5_inflateIfNeededFor_a7421_11 : decode cJ5_inflateIfNeededFor_a7421 11 = .ok (.invokevirtual 40, 3) := by decide +kernel
theorem dJ5_inflateIfNeededFor_a7421_14 : decode cJ5_inflateIfNeededFor_a7421 14 = .ok (.if_icmp .eq 7, 3) := by decide +kernel
theorem dJ5_inflateIfNeededFor_a7421_17 : decode cJ5_inflateIfNeededFor_a7421 17 = .ok (.aload_n 0, 1) := by decide +kernel
theorem dJ5_inflateIfNeededFor_a7421_18 : decode cJ5_inflateIfNeededFor_a7421 18 = .ok (.invokevirtual 195, 3) := by decide +kernel
theorem dJ5_inflateIfNeededFor_a7421_21 : decode cJ5_inflateIfNeededFor_a7421 21 = .ok (.return_, 1) := by decide +kernel
theorem dJ0_getBytes_840e7_0 : decode cJ0_getBytes_840e7 0 = .ok (.aload_n 0, 1) := by decide +kernel
theorem dJ0_getBytes_840e7_1 : decode cJ0_getBytes_840e7 1 = .ok (.invokevirtual 335, 3) := by decide +kernel
theorem dJ0_getBytes_840e7_4 : decode cJ0_getBytes_840e7 4 = .ok (.iload_n 3, 1) := by decide +kernel
theorem dJ0_getBytes_840e7_5 : decode cJ0_getBytes_840e7 5 = .ok (.if_icmp .ne 23, 3) := by decide +kernel
theorem dJ0_getBytes_840e7_8 : decode cJ0_getBytes_840e7 8 = .ok (.aload_n 0, 1) := by decide +kernel
theorem dJ0_getBytes_840e7_9 : decode cJ0_getBytes_840e7 9 = .ok (.getfield 9, 3) := by decide +kernel
theorem dJ0_getBytes_840e7_12 : decode cJ0_getBytes_840e7 12 = .ok (.iconst 0, 1) := by decide +kernel
theorem dJ0_getBytes_840e7_13 : decode cJ0_getBytes_840e7 13 = .ok (.aload_n 1, 1) := by decide +kernel
theorem dJ0_getBytes_840e7_14 : decode cJ0_getBytes_840e7 14 = .ok (.iload_n 2, 1) := by decide +kernel
theorem dJ0_getBytes_840e7_15 : decode cJ0_getBytes_840e7 15 = .ok (.iload_n 3, 1) := by decide +kernel
theorem dJ0_getBytes_840e7_16 : decode cJ0_getBytes_840e7 16 = .ok (.ishl, 1) := by decide +kernel
theorem dJ0_getBytes_840e7_17 : decode cJ0_getBytes_840e7 17 = .ok (.aload_n 0, 1) := by decide +kernel
theorem dJ0_getBytes_840e7_18 : decode cJ0_getBytes_840e7 18 = .ok (.getfield 9, 3) := by decide +kernel
theorem dJ0_getBytes_840e7_21 : decode cJ0_getBytes_840e7 21 = .ok (.arraylength, 1) := by decide +kernel
theorem dJ0_getBytes_840e7_22 : decode cJ0_getBytes_840e7 22 = .ok (.invokestatic 212, 3) := by decide +kernel
theorem dJ0_getBytes_840e7_25 : decode cJ0_getBytes_840e7 25 = .ok (.goto 18, 3) := by decide +kernel
theorem dJ0_getBytes_840e7_28 : decode cJ0_getBytes_840e7 28 = .ok (.aload_n 0, 1) := by decide +kernel
theorem dJ0_getBytes_840e7_29 : decode cJ0_getBytes_840e7 29 = .ok (.getfield 9, 3) := by decide +kernel
theorem dJ0_getBytes_840e7_32 : decode cJ0_getBytes_840e7 32 = .ok (.iconst 0, 1) := by decide +kernel
theorem dJ0_getBytes_840e7_33 : decode cJ0_getBytes_840e7 33 = .ok (.aload_n 1, 1) := by decide +kernel
theorem dJ0_getBytes_840e7_34 : decode cJ0_getBytes_840e7 34 = .ok (.iload_n 2, 1) := by decide +kernel
theorem dJ0_getBytes_840e7_35 : decode cJ0_getBytes_840e7 35 = .ok (.aload_n 0, 1) := by decide +kernel
theorem dJ0_getBytes_840e7_36 : decode cJ0_getBytes_840e7 36 = .ok (.getfield 9, 3) := by decide +kernel
theorem dJ0_getBytes_840e7_39 : decode cJ0_getBytes_840e7 39 = .ok (.arraylength, 1) := by decide +kernel
theorem dJ0_getBytes_840e7_40 : decode cJ0_getBytes_840e7 40 = .ok (.invokestatic 106, 3) := by decide +kernel
theorem dJ0_getBytes_840e7_43 : decode cJ0_getBytes_840e7 43 = .ok (.return_, 1) := by decide +kernel
theorem dJ6_stringSize_0f7a4_0 : decode cJ6_stringSize_0f7a4 0 = .ok (.iconst 1, 1) := by decide +kernel
theorem dJ6_stringSize_0f7a4_1 : decode cJ6_stringSize_0f7a4 1 = .ok (.istore_n 1, 1) := by decide +kernel
theorem dJ6_stringSize_0f7a4_2 : decode cJ6_stringSize_0f7a4 2 = .ok (.iload_n 0, 1) := by decide +kernel
theorem dJ6_stringSize_0f7a4_3 : decode cJ6_stringSize_0f7a4 3 = .ok (.ifCond .lt 8, 3) := by decide +kernel
theorem dJ6_stringSize_0f7a4_6 : decode cJ6_stringSize_0f7a4 6 = .ok (.iconst 0, 1) := by decide +kernel
theorem dJ6_stringSize_0f7a4_7 : decode cJ6_stringSize_0f7a4 7 = .ok (.istore_n 1, 1) := by decide +kernel
theorem dJ6_stringSize_0f7a4_8 : decode cJ6_stringSize_0f7a4 8 = .ok (.iload_n 0, 1) := by decide +kernel
theorem dJ6_stringSize_0f7a4_9 : decode cJ6_stringSize_0f7a4 9 = .ok (.ineg, 1) := by decide +kernel
theorem dJ6_stringSize_0f7a4_10 : decode cJ6_stringSize_0f7a4 10 = .ok (.istore_n 0, 1) := by decide +kernel
theorem dJ6_stringSize_0f7a4_11 : decode cJ6_stringSize_0f7a4 11 = .ok (.bipush (-10), 2) := by decide +kernel
theorem dJ6_stringSize_0f7a4_13 : decode cJ6_stringSize_0f7a4 13 = .ok (.istore_n 2, 1) := by decide +kernel
theorem dJ6_stringSize_0f7a4_14 : decode cJ6_stringSize_0f7a4 14 = .ok (.iconst 1, 1) := by decide +kernel
theorem dJ6_stringSize_0f7a4_15 : decode cJ6_stringSize_0f7a4 15 = .ok (.istore_n 3, 1) := by decide +kernel
theorem dJ6_stringSize_0f7a4_16 : decode cJ6_stringSize_0f7a4 16 = .ok (.iload_n 3, 1) := by decide +kernel
theorem dJ6_stringSize_0f7a4_17 : decode cJ6_stringSize_0f7a4 17 = .ok (.bipush 10, 2) := by decide +kernel
theorem dJ6_stringSize_0f7a4_19 : decode cJ6_stringSize_0f7a4 19 = .ok (.if_icmp .ge 23, 3) := by decide +kernel
theorem dJ6_stringSize_0f7a4_22 : decode cJ6_stringSize_0f7a4 22 = .ok (.iload_n 0, 1) := by decide +kernel
theorem dJ6_stringSize_0f7a4_23 : decode cJ6_stringSize_0f7a4 23 = .ok (.iload_n 2, 1) := by decide +kernel
theorem dJ6_stringSize_0f7a4_24 : decode cJ6_stringSize_0f7a4 24 = .ok (.if_icmp .le 7, 3) := by decide +kernel
theorem dJ6_stringSize_0f7a4_27 : decode cJ6_stringSize_0f7a4 27 = .ok (.iload_n 3, 1) := by decide +kernel
theorem dJ6_stringSize_0f7a4_28 : decode cJ6_stringSize_0f7a4 28 = .ok (.iload_n 1, 1) := by decide +kernel
theorem dJ6_stringSize_0f7a4_29 : decode cJ6_stringSize_0f7a4 29 = .ok (.iadd, 1) := by decide +kernel
theorem dJ6_stringSize_0f7a4_30 : decode cJ6_stringSize_0f7a4 30 = .ok (.ireturn, 1) := by decide +kernel
theorem dJ6_stringSize_0f7a4_31 : decode cJ6_stringSize_0f7a4 31 = .ok (.bipush 10, 2) := by decide +kernel
theorem dJ6_stringSize_0f7a4_33 : decode cJ6_stringSize_0f7a4 33 = .ok (.iload_n 2, 1) := by decide +kernel
theorem dJ6_stringSize_0f7a4_34 : decode cJ6_stringSize_0f7a4 34 = .ok (.imul, 1) := by decide +kernel
theorem dJ6_stringSize_0f7a4_35 : decode cJ6_stringSize_0f7a4 35 = .ok (.istore_n 2, 1) := by decide +kernel
theorem dJ6_stringSize_0f7a4_36 : decode cJ6_stringSize_0f7a4 36 = .ok (.iinc 3 1, 3) := by decide +kernel
theorem dJ6_stringSize_0f7a4_39 : decode cJ6_stringSize_0f7a4 39 = .ok (.goto (-23), 3) := by decide +kernel
theorem dJ6_stringSize_0f7a4_42 : decode cJ6_stringSize_0f7a4 42 = .ok (.bipush 10, 2) := by decide +kernel
theorem dJ6_stringSize_0f7a4_44 : decode cJ6_stringSize_0f7a4 44 = .ok (.iload_n 1, 1) := by decide +kernel
theorem dJ6_stringSize_0f7a4_45 : decode cJ6_stringSize_0f7a4 45 = .ok (.iadd, 1) := by decide +kernel
theorem dJ6_stringSize_0f7a4_46 : decode cJ6_stringSize_0f7a4 46 = .ok (.ireturn, 1) := by decide +kernel
theorem dJ6_getChars_ba4f3_0 : decode cJ6_getChars_ba4f3 0 = .ok (.iload_n 1, 1) := by decide +kernel
theorem dJ6_getChars_ba4f3_1 : decode cJ6_getChars_ba4f3 1 = .ok (.istore 5, 2) := by decide +kernel
theorem dJ6_getChars_ba4f3_3 : decode cJ6_getChars_ba4f3 3 = .ok (.iload_n 0, 1) := by decide +kernel
theorem dJ6_getChars_ba4f3_4 : decode cJ6_getChars_ba4f3 4 = .ok (.ifCond .ge 7, 3) := by decide +kernel
theorem dJ6_getChars_ba4f3_7 : decode cJ6_getChars_ba4f3 7 = .ok (.iconst 1, 1) := by decide +kernel
theorem dJ6_getChars_ba4f3_8 : decode cJ6_getChars_ba4f3 8 = .ok (.goto 4, 3) := by decide +kernel
theorem dJ6_getChars_ba4f3_11 : decode cJ6_getChars_ba4f3 11 = .ok (.iconst 0, 1) := by decide +kernel
theorem dJ6_getChars_ba4f3_12 : decode cJ6_getChars_ba4f3 12 = .ok (.istore 6, 2) := by decide +kernel
theorem dJ6_getChars_ba4f3_14 : decode cJ6_getChars_ba4f3 14 = .ok (.iload 6, 2) := by decide +kernel
theorem dJ6_getChars_ba4f3_16 : decode cJ6_getChars_ba4f3 16 = .ok (.ifCond .ne 6, 3) := by decide +kernel
theorem dJ6_getChars_ba4f3_19 : decode cJ6_getChars_ba4f3 19 = .ok (.iload_n 0, 1) := by decide +kernel
theorem dJ6_getChars_ba4f3_20 : decode cJ6_getChars_ba4f3 20 = .ok (.ineg, 1) := by decide +kernel
theorem dJ6_getChars_ba4f3_21 : decode cJ6_getChars_ba4f3 21 = .ok (.istore_n 0, 1) := by decide +kernel
theorem dJ6_getChars_ba4f3_22 : decode cJ6_getChars_ba4f3 22 = .ok (.iload_n 0, 1) := by decide +kernel
theorem dJ6_getChars_ba4f3_23 : decode cJ6_getChars_ba4f3 23 = .ok (.bipush (-100), 2) := by decide +kernel
theorem dJ6_getChars_ba4f3_25 : decode cJ6_getChars_ba4f3 25 = .ok (.if_icmp .gt 47, 3) := by decide +kernel
theorem dJ6_getChars_ba4f3_28 : decode cJ6_getChars_ba4f3 28 = .ok (.iload_n 0, 1) := by decide +kernel
theorem dJ6_getChars_ba4f3_29 : decode cJ6_getChars_ba4f3 29 = .ok (.bipush 100, 2) := by decide +kernel
theorem dJ6_getChars_ba4f3_31 : decode cJ6_getChars_ba4f3 31 = .ok (.idiv, 1) := by decide +kernel
theorem dJ6_getChars_ba4f3_32 : decode cJ6_getChars_ba4f3 32 = .ok (.istore_n 3, 1) := by decide +kernel
theorem dJ6_getChars_ba4f3_33 : decode cJ6_getChars_ba4f3 33 = .ok (.iload_n 3, 1) := by decide +kernel
theorem dJ6_getChars_ba4f3_34 : decode cJ6_getChars_ba4f3 34 = .ok (.bipush 100, 2) := by decide +kernel
theorem dJ6_getChars_ba4f3_36 : decode cJ6_getChars_ba4f3 36 = .ok (.imul, 1) := by decide +kernel
theorem dJ6_getChars_ba4f3_37 : decode cJ6_getChars_ba4f3 37 = .ok (.iload_n 0, 1) := by decide +kernel
theorem dJ6_getChars_ba4f3_38 : decode cJ6_getChars_ba4f3 38 = .ok (.isub, 1) := by decide +kernel
theorem dJ6_getChars_ba4f3_39 : decode cJ6_getChars_ba4f3 39 = .ok (.istore 4, 2) := by decide +kernel
theorem dJ6_getChars_ba4f3_41 : decode cJ6_getChars_ba4f3 41 = .ok (.iload_n 3, 1) := by decide +kernel
theorem dJ6_getChars_ba4f3_42 : decode cJ6_getChars_ba4f3 42 = .ok (.istore_n 0, 1) := by decide +kernel
theorem dJ6_getChars_ba4f3_43 : decode cJ6_getChars_ba4f3 43 = .ok (.aload_n 2, 1) := by decide +kernel
theorem dJ6_getChars_ba4f3_44 : decode cJ6_getChars_ba4f3 44 = .ok (.iinc 5 (-1), 3) := by decide +kernel
theorem dJ6_getChars_ba4f3_47 : decode cJ6_getChars_ba4f3 47 = .ok (.iload 5, 2) := by decide +kernel
theorem dJ6_getChars_ba4f3_49 : decode cJ6_getChars_ba4f3 49 = .ok (.getstatic 83, 3) := by decide +kernel
theorem dJ6_getChars_ba4f3_52 : decode cJ6_getChars_ba4f3 52 = .ok (.iload 4, 2) := by decide +kernel
theorem dJ6_getChars_ba4f3_54 : decode cJ6_getChars_ba4f3 54 = .ok (.baload, 1) := by decide +kernel
theorem dJ6_getChars_ba4f3_55 : decode cJ6_getChars_ba4f3 55 = .ok (.bastore, 1) := by decide +kernel
theorem dJ6_getChars_ba4f3_56 : decode cJ6_getChars_ba4f3 56 = .ok (.aload_n 2, 1) := by decide +kernel
theorem dJ6_getChars_ba4f3_57 : decode cJ6_getChars_ba4f3 57 = .ok (.iinc 5 (-1), 3) := by decide +kernel
theorem dJ6_getChars_ba4f3_60 : decode cJ6_getChars_ba4f3 60 = .ok (.iload 5, 2) := by decide +kernel
theorem dJ6_getChars_ba4f3_62 : decode cJ6_getChars_ba4f3 62 = .ok (.getstatic 87, 3) := by decide +kernel
theorem dJ6_getChars_ba4f3_65 : decode cJ6_getChars_ba4f3 65 = .ok (.iload 4, 2) := by decide +kernel
theorem dJ6_getChars_ba4f3_67 : decode cJ6_getChars_ba4f3 67 = .ok (.baload, 1) := by decide +kernel
theorem dJ6_getChars_ba4f3_68 : decode cJ6_getChars_ba4f3 68 = .ok (.bastore, 1) := by decide +kernel
theorem dJ6_getChars_ba4f3_69 : decode cJ6_getChars_ba4f3 69 = .ok (.goto (-47), 3) := by decide +kernel
theorem dJ6_getChars_ba4f3_72 : decode cJ6_getChars_ba4f3 72 = .ok (.aload_n 2, 1) := by decide +kernel
theorem dJ6_getChars_ba4f3_73 : decode cJ6_getChars_ba4f3 73 = .ok (.iinc 5 (-1), 3) := by decide +kernel
theorem dJ6_getChars_ba4f3_76 : decode cJ6_getChars_ba4f3 76 = .ok (.iload 5, 2) := by decide +kernel
theorem dJ6_getChars_ba4f3_78 : decode cJ6_getChars_ba4f3 78 = .ok (.getstatic 83, 3) := by decide +kernel
theorem dJ6_getChars_ba4f3_81 : decode cJ6_getChars_ba4f3 81 = .ok (.iload_n 0, 1) := by decide +kernel
theorem dJ6_getChars_ba4f3_82 : decode cJ6_getChars_ba4f3 82 = .ok (.ineg, 1) := by decide +kernel
theorem dJ6_getChars_ba4f3_83 : decode cJ6_getChars_ba4f3 83 = .ok (.baload, 1) := by decide +kernel
theorem dJ6_getChars_ba4f3_84 : decode cJ6_getChars_ba4f3 84 = .ok (.bastore, 1) := by decide +kernel
theorem dJ6_getChars_ba4f3_85 : decode cJ6_getChars_ba4f3 85 = .ok (.iload_n 0, 1) := by decide +kernel
theorem dJ6_getChars_ba4f3_86 : decode cJ6_getChars_ba4f3 86 = .ok (.bipush (-9), 2) := by decide +kernel
theorem dJ6_getChars_ba4f3_88 : decode cJ6_getChars_ba4f3 88 = .ok (.if_icmp .ge 16, 3) := by decide +kernel
theorem dJ6_getChars_ba4f3_91 : decode cJ6_getChars_ba4f3 91 = .ok (.aload_n 2, 1) := by decide +kernel
theorem dJ6_getChars_ba4f3_92 : decode cJ6_getChars_ba4f3 92 = .ok (.iinc 5 (-1), 3) := by decide +kernel
theorem dJ6_getChars_ba4f3_95 : decode cJ6_getChars_ba4f3 95 = .ok (.iload 5, 2) := by decide +kernel
theorem dJ6_getChars_ba4f3_97 : decode cJ6_getChars_ba4f3 97 = .ok (.getstatic 87, 3) := by decide +kernel
theorem dJ6_getChars_ba4f3_100 : decode cJ6_getChars_ba4f3 100 = .ok (.iload_n 0, 1) := by decide +kernel
theorem dJ6_getChars_ba4f3_101 : decode cJ6_getChars_ba4f3 101 = .ok (.ineg, 1) := by decide +kernel
theorem dJ6_getChars_ba4f3_102 : decode cJ6_getChars_ba4f3 102 = .ok (.baload, 1) := by decide +kernel
theorem dJ6_getChars_ba4f3_103 : decode cJ6_getChars_ba4f3 103 = .ok (.bastore, 1) := by decide +kernel
theorem dJ6_getChars_ba4f3_104 : decode cJ6_getChars_ba4f3 104 = .ok (.iload 6, 2) := by decide +kernel
theorem dJ6_getChars_ba4f3_106 : decode cJ6_getChars_ba4f3 106 = .ok (.ifCond .eq 12, 3) := by decide +kernel
theorem dJ6_getChars_ba4f3_109 : decode cJ6_getChars_ba4f3 109 = .ok (.aload_n 2, 1) := by decide +kernel
theorem dJ6_getChars_ba4f3_110 : decode cJ6_getChars_ba4f3 110 = .ok (.iinc 5 (-1), 3) := by decide +kernel
theorem dJ6_getChars_ba4f3_113 : decode cJ6_getChars_ba4f3 113 = .ok (.iload 5, 2) := by decide +kernel
theorem dJ6_getChars_ba4f3_115 : decode cJ6_getChars_ba4f3 115 = .ok (.bipush 45, 2) := by decide +kernel
theorem dJ6_getChars_ba4f3_117 : decode cJ6_getChars_ba4f3 117 = .ok (.bastore, 1) := by decide +kernel
theorem dJ6_getChars_ba4f3_118 : decode cJ6_getChars_ba4f3 118 = .ok (.iload 5, 2) := by decide +kernel
theorem dJ6_getChars_ba4f3_120 : decode cJ6_getChars_ba4f3 120 = .ok (.ireturn, 1) := by decide +kernel
theorem fd_J5_73 : FD RJ5 73 0 2 0 .boolean false := ⟨RJ4, TJ4, 4, tyJ4, rfl, rfl, inJ4, tyJ4_ok, nmJ4, by decide, rfl, rfl, rfl, gw1 638 (by decide +kernel) (by decide +kernel)⟩
theorem fd_J5_79 : FD RJ5 79 0 3 0 .int false := ⟨RJ4, TJ4, 4, tyJ4, rfl, rfl, inJ4, tyJ4_ok, nmJ4, by decide, rfl, rfl, rfl, gw1 639 (by decide +kernel) (by decide +kernel)⟩
theorem cv_X12_368 : CVd RX12 368 yJ4_setLength_d00df cJ4_setLength_d00df 2 none 1 := ⟨gw1 1263 (by decide +kernel) (by decide +kernel), gw1 1264 (by decide +kernel) (by decide +kernel), gw1 1265 (by decide +kernel) (by decide +kernel), gw1 156 (by decide +kernel) (by decide +kernel), gw1 1266 (by decide +kernel) (by decide +kernel), by decide, by decide, by decide, by decide +kernel⟩
theorem cv_X12_381 : CVd RX12 381 yJ4_append_15ec4 cJ4_append_15ec4 2 (some (.object "java/lang/StringBuilder")) 1 := ⟨gw1 1377 (by decide +kernel) (by decide +kernel), gw1 1378 (by decide +kernel) (by decide +kernel), gw1 1379 (by decide +kernel) (by decide +kernel), gw1 156 (by decide +kernel) (by decide +kernel), gw1 1380 (by decide +kernel) (by decide +kernel), by decide, by decide, by decide, by decide +kernel⟩
theorem cv_X12_387 : CVd RX12 387 yJ4_length_8abf5 cJ4_length_8abf5 1 (some .int) 0 := ⟨gw1 1456 (by decide +kernel) (by decide +kernel), gw1 1457 (by decide +kernel) (by decide +kernel), gw1 1458 (by decide +kernel) (by decide +kernel), gw1 156 (by decide +kernel) (by decide +kernel), gw1 1459 (by decide +kernel) (by decide +kernel), by decide, by decide, by decide, by decide +kernel⟩
theorem cv_X12_392 : CVd RX12 392 yJ4_append_cf468 cJ4_append_cf468 2 (some (.object "java/lang/StringBuilder")) 1 := ⟨gw1 1321 (by decide +kernel) (by decide +kernel), gw1 1322 (by decide +kernel) (by decide +kernel), gw1 1323 (by decide +kernel) (by decide +kernel), gw1 156 (by decide +kernel) (by decide +kernel), gw1 1324 (by decide +kernel) (by decide +kernel), by decide, by decide, by decide, by decide +kernel⟩
theorem cv_X12_401 : CVd RX12 401 yJ4_append_bf812 cJ4_append_bf812 2 (some (.object "java/lang/StringBuilder")) 1 := ⟨gw1 1431 (by decide +kernel) (by decide +kernel), gw1 1432 (by decide +kernel) (by decide +kernel), gw1 1433 (by decide +kernel) (by decide +kernel), gw1 156 (by decide +kernel) (by decide +kernel), gw1 1434 (by decide +kernel) (by decide +kernel), by decide, by decide, by decide, by decide +kernel⟩
theorem cv_X12_404 : CVd RX12 404 yJ4_charAt_5068e cJ4_charAt_5068e 2 (some .char) 1 := ⟨gw1 1467 (by decide +kernel) (by decide +kernel), gw1 1468 (by decide +kernel) (by decide +kernel), gw1 1469 (by decide +kernel) (by decide +kernel), gw1 156 (by decide +kernel) (by decide +kernel), gw1 1470 (by decide +kernel) (by decide +kernel), by decide, by decide, by decide, by decide +kernel⟩
theorem cv_X12_375 : CVd RX12 375 yX12_appendName cX12_appendName 5 none 1 := ⟨gw1 1317 (by decide +kernel) (by decide +kernel), gw1 1319 (by decide +kernel) (by decide +kernel), gw1 36 (by decide +kernel) (by decide +kernel), gw1 142 (by decide +kernel) (by decide +kernel), gw1 1320 (by decide +kernel) (by decide +kernel), by decide, by decide, by decide, by decide +kernel⟩
theorem cv_X12_384 : CVd RX12 384 yX12_appendTerm cX12_appendTerm 3 none 1 := ⟨gw1 1424 (by decide +kernel) (by decide +kernel), gw1 1426 (by decide +kernel) (by decide +kernel), gw1 37 (by decide +kernel) (by decide +kernel), gw1 142 (by decide +kernel) (by decide +kernel), gw1 1427 (by decide +kernel) (by decide +kernel), by decide, by decide, by decide, by decide +kernel⟩
theorem cv_J5_32 : CVd RJ5 32 yJ0_length_8abf5 cJ0_length_8abf5 1 (some .int) 0 := ⟨gw1 1400 (by decide +kernel) (by decide +kernel), gw1 1401 (by decide +kernel) (by decide +kernel), gw1 1402 (by decide +kernel) (by decide +kernel), gw1 157 (by decide +kernel) (by decide +kernel), gw1 1403 (by decide +kernel) (by decide +kernel), by decide, by decide, by decide, by decide +kernel⟩
theorem cv_J5_40 : CVd RJ5 40 yJ0_coder_7d493 cJ0_coder_7d493 1 (some .byte) 0 := ⟨gw1 1417 (by decide +kernel) (by decide +kernel), gw1 1405 (by decide +kernel) (by decide +kernel), gw1 1406 (by decide +kernel) (by decide +kernel), gw1 157 (by decide +kernel) (by decide +kernel), gw1 1407 (by decide +kernel) (by decide +kernel), by decide, by decide, by decide, by decide +kernel⟩
theorem cv_J5_399 : CVd RJ5 399 yJ0_getBytes_840e7 cJ0_getBytes_840e7 4 none 3 := ⟨gw1 1418 (by decide +kernel) (by decide +kernel), gw1 1419 (by decide +kernel) (by decide +kernel), gw1 1420 (by decide +kernel) (by decide +kernel), gw1 157 (by decide +kernel) (by decide +kernel), gw1 1421 (by decide +kernel) (by decide +kernel), by decide, by decide, by decide, by decide +kernel⟩
theorem cv_J0_335 : CVd RJ0 335 yJ0_coder_7d493 cJ0_coder_7d493 1 (some .byte) 0 := ⟨gw1 1404 (by decide +kernel) (by decide +kernel), gw1 1405 (by decide +kernel) (by decide +kernel), gw1 1406 (by decide +kernel) (by decide +kernel), gw1 157 (by decide +kernel) (by decide +kernel), gw1 1407 (by decide +kernel) (by decide +kernel), by decide, by decide, by decide, by decide +kernel⟩
theorem cu_83 : CUb 83 yJ5_isLatin1_aae02 cJ5_isLatin1_aae02 1 (some .boolean) 0 := ⟨in_places [1299, 1301, 1300, 155, 1303] (by decide +kernel) (by decide +kernel), Or.inl (gw1 1302 (by decide +kernel) (by decide +kernel)), by decide, rfl, by decide +kernel⟩
theorem cu_100 : CUb 100 yJ5_ensureCapacityInternal_d00df cJ5_ensureCapacityInternal_d00df 3 none 1 := ⟨in_places [1270, 2428, 1272, 155, 1273] (by decide +kernel) (by decide +kernel), Or.inr (by decide), by decide, rfl, by decide +kernel⟩
theorem cu_104 : CUb 104 yJ5_newCapacity_0f7a4 cJ5_newCapacity_0f7a4 6 (some .int) 1 := ⟨in_places [1274, 2429, 1276, 155, 1277] (by decide +kernel) (by decide +kernel), Or.inr (by decide), by decide, rfl, by decide +kernel⟩
theorem cu_208 : CUb 208 yJ5_putStringAt_47b60 cJ5_putStringAt_47b60 3 none 2 := ⟨in_places [1409, 2434, 1411, 155, 1412] (by decide +kernel) (by decide +kernel), Or.inr (by decide), by decide, rfl, by decide +kernel⟩
theorem cu_397 : CUb 397 yJ5_inflateIfNeededFor_a7421 cJ5_inflateIfNeededFor_a7421 2 none 1 := ⟨in_places [1413, 2435, 1415, 155, 1416] (by decide +kernel) (by decide +kernel), Or.inr (by decide), by decide, rfl, by decide +kernel⟩
theorem cq_343 : CSb 343 yJ5_length_8abf5 cJ5_length_8abf5 1 (some .int) 0 := ⟨in_places [1460, 2437, 648, 1461, 155, 1462] (by decide +kernel) (by decide +kernel), by decide, by decide, by decide +kernel⟩
theorem cq_329 : CSb 329 yJ5_charAt_5068e cJ5_charAt_5068e 5 (some .char) 1 := ⟨in_places [1471, 2438, 648, 1472, 155, 1473] (by decide +kernel) (by decide +kernel), by decide, by decide, by decide +kernel⟩
theorem cq_333 : CSb 333 yJ5_setLength_d00df cJ5_setLength_d00df 2 none 1 := ⟨in_places [1267, 2427, 648, 1268, 155, 1269] (by decide +kernel) (by decide +kernel), by decide, by decide, by decide +kernel⟩
theorem cq_50 : CSb 50 yJ5_append_3fe6f cJ5_append_3fe6f 2 (some (.object "java/lang/AbstractStringBuilder")) 1 := ⟨in_places [1325, 2430, 648, 1326, 155, 1327] (by decide +kernel) (by decide +kernel), by decide, by decide, by decide +kernel⟩
theorem cq_29 : CSb 29 yJ5_append_cf1ce cJ5_append_cf1ce 3 (some (.object "java/lang/AbstractStringBuilder")) 1 := ⟨in_places [1381, 2432, 648, 1382, 155, 1383] (by decide +kernel) (by decide +kernel), by decide, by decide, by decide +kernel⟩
theorem cq_53 : CSb 53 yJ5_append_c97b9 cJ5_append_c97b9 4 (some (.object "java/lang/AbstractStringBuilder")) 1 := ⟨in_places [1435, 2436, 648, 1436, 155, 1437] (by decide +kernel) (by decide +kernel), by decide, by decide, by decide +kernel⟩
theorem cs_J5_144 : CSd RJ5 144 yJ0_checkIndex_df160 cJ0_checkIndex_df160 2 none 2 := ⟨gw1 1475 (by decide +kernel) (by decide +kernel), gw1 1371 (by decide +kernel) (by decide +kernel), gw1 157 (by decide +kernel) (by decide +kernel), gw1 1372 (by decide +kernel) (by decide +kernel), by decide, by decide, by decide, by decide +kernel⟩
theorem cs_J0_1059 : CSd RJ0 1059 yJ3_checkIndex_8e157 cJ3_checkIndex_8e157 3 (some .int) 3 := ⟨gw1 1373 (by decide +kernel) (by decide +kernel), gw1 1374 (by decide +kernel) (by decide +kernel), gw1 170 (by decide +kernel) (by decide +kernel), gw1 1375 (by decide +kernel) (by decide +kernel), by decide, by decide, by decide, by decide +kernel⟩
theorem cs_J5_108 : CSd RJ5 108 yJ7_copyOf_9075b cJ7_copyOf_9075b 3 (some (.array .byte)) 2 := ⟨gw1 1287 (by decide +kernel) (by decide +kernel), gw1 1288 (by decide +kernel) (by decide +kernel), gw1 168 (by decide +kernel) (by decide +kernel), gw1 1289 (by decide +kernel) (by decide +kernel), by decide, by decide, by decide, by decide +kernel⟩
theorem cs_J5_114 : CSd RJ5 114 yJ8_newLength_cabcc cJ8_newLength_cabcc 4 (some .int) 3 := ⟨gw1 1278 (by decide +kernel) (by decide +kernel), gw1 1279 (by decide +kernel) (by decide +kernel), gw1 167 (by decide +kernel) (by decide +kernel), gw1 1280 (by decide +kernel) (by decide +kernel), by decide, by decide, by decide, by decide +kernel⟩
theorem cs_J5_191 : CSd RJ5 191 yJ1_canEncode_fc78d cJ1_canEncode_fc78d 1 (some .boolean) 1 := ⟨gw1 1328 (by decide +kernel) (by decide +kernel), gw1 1329 (by decide +kernel) (by decide +kernel), gw1 169 (by decide +kernel) (by decide +kernel), gw1 1330 (by decide +kernel) (by decide +kernel), by decide, by decide, by decide, by decide +kernel⟩
theorem cs_J5_245 : CSd RJ5 245 yJ6_stringSize_0f7a4 cJ6_stringSize_0f7a4 4 (some .int) 1 := ⟨gw1 1438 (by decide +kernel) (by decide +kernel), gw1 1439 (by decide +kernel) (by decide +kernel), gw1 172 (by decide +kernel) (by decide +kernel), gw1 1440 (by decide +kernel) (by decide +kernel), by decide, by decide, by decide, by decide +kernel⟩
theorem cs_J5_248 : CSd RJ5 248 yJ6_getChars_ba4f3 cJ6_getChars_ba4f3 7 (some .int) 3 := ⟨gw1 1441 (by decide +kernel) (by decide +kernel), gw1 1442 (by decide +kernel) (by decide +kernel), gw1 172 (by decide +kernel) (by decide +kernel), gw1 1443 (by decide +kernel) (by decide +kernel), by decide, by decide, by decide, by decide +kernel⟩
theorem mx_J5_138 : MNd RJ5 138 := ⟨gw1 1474 (by decide +kernel) (by decide +kernel), gw1 988 (by decide +kernel) (by decide +kernel), gw1 166 (by decide +kernel) (by decide +kernel), gw1 989 (by decide +kernel) (by decide +kernel)⟩
theorem mx_J7_304 : MNd RJ7 304 := ⟨gw1 1297 (by decide +kernel) (by decide +kernel), gw1 988 (by decide +kernel) (by decide +kernel), gw1 166 (by decide +kernel) (by decide +kernel), gw1 989 (by decide +kernel) (by decide +kernel)⟩
theorem mx_J8_194 : MXd RJ8 194 := ⟨gw1 1281 (by decide +kernel) (by decide +kernel), gw1 1039 (by decide +kernel) (by decide +kernel), gw1 166 (by decide +kernel) (by decide +kernel), gw1 1040 (by decide +kernel) (by decide +kernel)⟩
theorem cp_J7_150 : CPd RJ7 150 := ⟨gw1 1298 (by decide +kernel) (by decide +kernel), gw1 857 (by decide +kernel) (by decide +kernel), gw1 856 (by decide +kernel) (by decide +kernel), gw1 161 (by decide +kernel) (by decide +kernel)⟩
theorem cp_J0_212 : CPd RJ0 212 := ⟨gw1 1422 (by decide +kernel) (by decide +kernel), gw1 857 (by decide +kernel) (by decide +kernel), gw1 856 (by decide +kernel) (by decide +kernel), gw1 161 (by decide +kernel) (by decide +kernel)⟩
theorem kc_J5_39 : Cond.constant RJ5 39 2147483647 ∈ gw := gw1 1286 (by decide +kernel) (by decide +kernel)
theorem kc_J8_200 : Cond.constant RJ8 200 2147483639 ∈ gw := gw1 1282 (by decide +kernel) (by decide +kernel)
theorem fl_J0_38 : Cond.fieldLink RJ0 38 "java/lang/String" "COMPACT_STRINGS" "Z" ∈ gw := gw1 1408 (by decide +kernel) (by decide +kernel)
theorem fl_J0_1053 : Cond.fieldLink RJ0 1053 "jdk/internal/util/Preconditions" "SIOOBE_FORMATTER" "Ljava/util/function/BiFunction;" ∈ gw := gw1 1350 (by decide +kernel) (by decide +kernel)
theorem fl_J6_83 : Cond.fieldLink RJ6 83 "java/lang/Integer" "DigitOnes" "[B" ∈ gw := gw1 1444 (by decide +kernel) (by decide +kernel)
theorem fl_J6_87 : Cond.fieldLink RJ6 87 "java/lang/Integer" "DigitTens" "[B" ∈ gw := gw1 1446 (by decide +kernel) (by decide +kernel)
theorem fl_J0_9 : Cond.fieldLink RJ0 9 "java/lang/String" "value" "[B" ∈ gw := gw1 2459 (by decide +kernel) (by decide +kernel)
theorem fl_J0_15 : Cond.fieldLink RJ0 15 "java/lang/String" "coder" "B" ∈ gw := gw1 2460 (by decide +kernel) (by decide +kernel)
