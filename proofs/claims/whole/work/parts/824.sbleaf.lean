/-! the JDK's small methods; length, charAt -/
theorem le_sub0 {a b : Nat} (ha : a < 2 ^ 30) (hb : b < 2 ^ 30) : nI a - nI b ≤ 0 ↔ a ≤ b := by
  rw [Int32.le_iff_toInt_le, pk_sub_toInt ha hb, Int32.toInt_zero]
  omega
theorem mn_le {a b : Nat} (h : a ≤ b) (hb : b < 2 ^ 31) : mnI (nI a) (nI b) = nI a := if_neg (nI_nlt h hb)
theorem j_ex2 {l : Launch} {E : ee} {y : MethodName} {cc : ByteArray} {nL : Nat} {ret : Option FieldType} {d mc ms : Nat} {Q : Option Value → Heap → Prop} {k n pc : Nat} {lv : List (Nat × Value)} {st : List Value} {α β : Type} {P : α → β → Prop} {J : α → β → Heap → Prop} (kk : ∀ x z, P x z → WJ l E y cc nL ret d mc ms Q k n pc lv st (J x z)) : WJ l E y cc nL ret d mc ms Q k n pc lv st (fun H => ∃ x z, P x z ∧ J x z H) :=
  fun p e s m args below meth c H locs ls A Rp S L => by
    obtain ⟨x, z, h1, h2⟩ := Rp
    exact kk x z h1 p e s m args below meth c H locs ls A h2 S L
theorem kJ5_length {l : Launch} {E : ee} (hE : EOK E) (d : Nat) {A cap : Nat} {f : Nat → Int32} {ml cn : Int32} : CJ l E yJ5_length_8abf5 cJ5_length_8abf5 1 (some .int) d 0 0 [.ref (E.1.2.1 209)] (SBw E A cap f ml cn) (fun v H => v = some (.int cn) ∧ SBw E A cap f ml cn H) := by
  refine CJ.ofWJ hE (by decide) (Nat.le_of_ble_eq_true rfl) ?_
  show WJ l E yJ5_length_8abf5 cJ5_length_8abf5 1 (some .int) d 0 0 (fun v H => v = some (.int cn) ∧ SBw E A cap f ml cn H) 0 0 0 [(0, .ref (E.1.2.1 209))] [] (SBw E A cap f ml cn)
  refine j_aload_n 0 dJ5_length_8abf5_0 rfl ?_
  refine b_count dJ5_length_8abf5_1 rfl ?_
  exact j_ireturn dJ5_length_8abf5_4 rfl (fun _ h => ⟨rfl, h⟩) (Nat.le_refl _) (Nat.le_refl _)
theorem kJ4_length {l : Launch} {E : ee} (hE : EOK E) (d : Nat) (hdd : 1 ≤ d) {A cap : Nat} {f : Nat → Int32} {ml cn : Int32} : CJ l E yJ4_length_8abf5 cJ4_length_8abf5 1 (some .int) d 0 0 [.ref (E.1.2.1 209)] (SBw E A cap f ml cn) (fun v H => v = some (.int cn) ∧ SBw E A cap f ml cn H) := by
  refine CJ.ofWJ hE (by decide) (Nat.le_of_ble_eq_true rfl) ?_
  show WJ l E yJ4_length_8abf5 cJ4_length_8abf5 1 (some .int) d 0 0 (fun v H => v = some (.int cn) ∧ SBw E A cap f ml cn H) 0 0 0 [(0, .ref (E.1.2.1 209))] [] (SBw E A cap f ml cn)
  refine j_aload_n 0 dJ4_length_8abf5_0 rfl ?_
  refine j_cSU [] dJ4_length_8abf5_1 rfl cq_343 rcv_sb rfl rfl (Nat.le_of_ble_eq_true rfl) (show d - 1 + 1 ≤ d by omega) (Nat.le_refl _) (Nat.le_refl _) (kJ5_length hE (d - 1)) ?_
  exact j_ireturn dJ4_length_8abf5_4 rfl (fun _ h => ⟨rfl, h⟩) (Nat.le_refl _) (Nat.le_refl _)
theorem kJ5_isLatin1 {l : Launch} {E : ee} (hE : EOK E) (d : Nat) {A cap : Nat} {f : Nat → Int32} {ml cn : Int32} : CJ l E yJ5_isLatin1_aae02 cJ5_isLatin1_aae02 1 (some .boolean) d 0 0 [.ref (E.1.2.1 209)] (SBw E A cap f ml cn) (fun v H => v = some (.int 1) ∧ SBw E A cap f ml cn H) := by
  refine CJ.ofWJ hE (by decide) (Nat.le_of_ble_eq_true rfl) ?_
  show WJ l E yJ5_isLatin1_aae02 cJ5_isLatin1_aae02 1 (some .boolean) d 0 0 (fun v H => v = some (.int 1) ∧ SBw E A cap f ml cn H) 0 0 0 [(0, .ref (E.1.2.1 209))] [] (SBw E A cap f ml cn)
  refine j_gets dJ5_isLatin1_aae02_0 fw_J5_18 z_compact ?_
  refine j_if_eq 17 dJ5_isLatin1_aae02_3 (by decide) (fun w => absurd w (by decide)) (fun _ => ?_)
  refine j_aload_n 0 dJ5_isLatin1_aae02_6 rfl ?_
  refine b_coder dJ5_isLatin1_aae02_7 rfl ?_
  refine j_if_ne 17 dJ5_isLatin1_aae02_10 (by decide) (fun w => absurd w (by decide)) (fun _ => ?_)
  refine j_iconst (v := (1 : Int32)) dJ5_isLatin1_aae02_13 (by decide) ?_
  refine j_goto 18 dJ5_isLatin1_aae02_14 (by decide) ?_
  exact j_zreturn dJ5_isLatin1_aae02_18 rfl rfl (fun _ h => ⟨rfl, h⟩) (Nat.le_refl _) (Nat.le_refl _)
theorem kJ3_checkIndex {l : Launch} {E : ee} (hE : EOK E) (d : Nat) {I : Heap → Prop} {x z : Int32} {r : Option Nat} (h0 : ¬ x < 0) (h1 : x < z) : CJ l E yJ3_checkIndex_8e157 cJ3_checkIndex_8e157 3 (some .int) d 0 0 [.int x, .int z, va_rf r] (I) (fun v H => v = some (.int x) ∧ I H) := by
  refine CJ.ofWJ hE (by decide) (by rcases r with _ | r <;> exact Nat.le_of_ble_eq_true rfl) ?_
  show WJ l E yJ3_checkIndex_8e157 cJ3_checkIndex_8e157 3 (some .int) d 0 0 (fun v H => v = some (.int x) ∧ I H) 0 0 0 [(0, .int x), (1, .int z), (2, va_rf r)] [] (I)
  refine j_iload_n 0 dJ3_checkIndex_8e157_0 rfl ?_
  refine j_if_lt 9 dJ3_checkIndex_8e157_1 (by decide) (fun w => absurd w (h0)) (fun _ => ?_)
  refine j_iload_n 0 dJ3_checkIndex_8e157_4 rfl ?_
  refine j_iload_n 1 dJ3_checkIndex_8e157_5 rfl ?_
  refine j_icmp_lt 16 dJ3_checkIndex_8e157_6 (by decide) (fun _ => ?_) (fun w => absurd (h1) w)
  refine j_iload_n 0 dJ3_checkIndex_8e157_16 rfl ?_
  exact j_ireturn dJ3_checkIndex_8e157_17 rfl (fun _ h => ⟨rfl, h⟩) (Nat.le_refl _) (Nat.le_refl _)
theorem kJ0_checkIndex {l : Launch} {E : ee} (hE : EOK E) (d : Nat) (hdd : 1 ≤ d) {I : Heap → Prop} {x z : Int32} (h0 : ¬ x < 0) (h1 : x < z) : CJ l E yJ0_checkIndex_df160 cJ0_checkIndex_df160 2 none d 0 0 [.int x, .int z] (I) (fun v H => v = none ∧ I H) := by
  refine CJ.ofWJ hE (by decide) (Nat.le_of_ble_eq_true rfl) ?_
  show WJ l E yJ0_checkIndex_df160 cJ0_checkIndex_df160 2 none d 0 0 (fun v H => v = none ∧ I H) 0 0 0 [(0, .int x), (1, .int z)] [] (I)
  refine j_iload_n 0 dJ0_checkIndex_df160_0 rfl ?_
  refine j_iload_n 1 dJ0_checkIndex_df160_1 rfl ?_
  refine j_getsq dJ0_checkIndex_df160_2 fl_J0_1053 (fun s h => h.2.2.2.2.1.1) (fun r => ?_)
  refine j_cS [.int x, .int z, va_rf r] dJ0_checkIndex_df160_5 cs_J0_1059 rfl rfl (Nat.le_of_ble_eq_true rfl) (show d - 1 + 1 ≤ d by omega) (Nat.le_refl _) (Nat.le_refl _) (kJ3_checkIndex hE (d - 1) h0 h1) ?_
  refine j_pop dJ0_checkIndex_df160_8 rfl ?_
  exact j_return dJ0_checkIndex_df160_9 rfl (fun _ h => ⟨rfl, h⟩) (Nat.le_refl _) (Nat.le_refl _)
theorem kJ5_charAt {l : Launch} {E : ee} (hE : EOK E) (d : Nat) (hdd : 2 ≤ d) {A cap : Nat} {f : Nat → Int32} {ml : Int32} {n i : Nat} (hi : i < n) (hn : n ≤ cap) (hc : cap ≤ 34) : CJ l E yJ5_charAt_5068e cJ5_charAt_5068e 5 (some .char) d 0 0 [.ref (E.1.2.1 209), .int (nI i)] (SBw E A cap f ml (nI n)) (fun v H => v = some (.int ((f i &&& 255).toUInt32 % 65536).toInt32) ∧ SBw E A cap f ml (nI n) H) := by
  refine CJ.ofWJ hE (by decide) (Nat.le_of_ble_eq_true rfl) ?_
  show WJ l E yJ5_charAt_5068e cJ5_charAt_5068e 5 (some .char) d 0 0 (fun v H => v = some (.int ((f i &&& 255).toUInt32 % 65536).toInt32) ∧ SBw E A cap f ml (nI n) H) 0 0 0 [(0, .ref (E.1.2.1 209)), (1, .int (nI i))] [] (SBw E A cap f ml (nI n))
  refine j_aload_n 0 dJ5_charAt_5068e_0 rfl ?_
  refine b_coder dJ5_charAt_5068e_1 rfl ?_
  refine j_istore_n (lv' := [(2, .int 0), (0, .ref (E.1.2.1 209)), (1, .int (nI i))]) dJ5_charAt_5068e_4 (by decide) rfl ?_
  refine j_aload_n 1 dJ5_charAt_5068e_5 rfl ?_
  refine b_value dJ5_charAt_5068e_6 rfl ?_
  refine j_astore_n (lv' := [(3, .ref A), (2, .int 0), (0, .ref (E.1.2.1 209)), (1, .int (nI i))]) dJ5_charAt_5068e_9 (by decide) rfl ?_
  refine j_aload_n 2 dJ5_charAt_5068e_10 rfl ?_
  refine b_count dJ5_charAt_5068e_11 rfl ?_
  refine j_aload_n 0 dJ5_charAt_5068e_14 rfl ?_
  refine b_alen dJ5_charAt_5068e_15 ?_
  refine j_iload_n 1 dJ5_charAt_5068e_16 rfl ?_
  refine j_ishr dJ5_charAt_5068e_17 ?_
  refine j_intI (sb_shr0 _) ?_
  refine j_min dJ5_charAt_5068e_18 mx_J5_138 (Nat.le_of_ble_eq_true rfl) (by omega) (Nat.le_refl _) (Nat.le_refl _) ?_
  refine j_intI (mn_le hn (by omega)) ?_
  refine j_istore (lv' := [(4, .int (nI n)), (3, .ref A), (2, .int 0), (0, .ref (E.1.2.1 209)), (1, .int (nI i))]) dJ5_charAt_5068e_21 (by decide) rfl ?_
  refine j_iload_n 4 dJ5_charAt_5068e_23 rfl ?_
  refine j_iload 0 dJ5_charAt_5068e_24 rfl ?_
  refine j_cS [.int (nI i), .int (nI n)] dJ5_charAt_5068e_26 cs_J5_144 rfl rfl (Nat.le_of_ble_eq_true rfl) (show d - 1 + 1 ≤ d by omega) (Nat.le_refl _) (Nat.le_refl _) (kJ0_checkIndex hE (d - 1) (by omega) (nI_pos (by omega)) (nI_lt hi (by omega))) ?_
  refine j_iload_n 2 dJ5_charAt_5068e_29 rfl ?_
  refine j_if_ne 42 dJ5_charAt_5068e_30 (by decide) (fun w => absurd w (by decide)) (fun _ => ?_)
  refine j_aload_n 1 dJ5_charAt_5068e_33 rfl ?_
  refine j_iload_n 4 dJ5_charAt_5068e_34 rfl ?_
  refine j_bald (q0 := 1) (t0 := 2) dJ5_charAt_5068e_35 rfl rfl (vp_in_nI (n := i) (N := cap) (by omega) (by omega)) ?_
  refine j_intI (congrArg f (nI_clamp (by omega))) ?_
  refine j_sipush (v := (255 : Int32)) dJ5_charAt_5068e_36 (by decide) ?_
  refine j_iand dJ5_charAt_5068e_39 ?_
  refine j_i2c dJ5_charAt_5068e_40 ?_
  exact j_zreturn dJ5_charAt_5068e_41 rfl (pk_nc _) (fun _ h => ⟨rfl, h⟩) (Nat.le_refl _) (Nat.le_refl _)
theorem kJ4_charAt {l : Launch} {E : ee} (hE : EOK E) (d : Nat) (hdd : 3 ≤ d) {A cap : Nat} {f : Nat → Int32} {ml : Int32} {n i : Nat} (hi : i < n) (hn : n ≤ cap) (hc : cap ≤ 34) : CJ l E yJ4_charAt_5068e cJ4_charAt_5068e 2 (some .char) d 0 0 [.ref (E.1.2.1 209), .int (nI i)] (SBw E A cap f ml (nI n)) (fun v H => v = some (.int ((f i &&& 255).toUInt32 % 65536).toInt32) ∧ SBw E A cap f ml (nI n) H) := by
  refine CJ.ofWJ hE (by decide) (Nat.le_of_ble_eq_true rfl) ?_
  show WJ l E yJ4_charAt_5068e cJ4_charAt_5068e 2 (some .char) d 0 0 (fun v H => v = some (.int ((f i &&& 255).toUInt32 % 65536).toInt32) ∧ SBw E A cap f ml (nI n) H) 0 0 0 [(0, .ref (E.1.2.1 209)), (1, .int (nI i))] [] (SBw E A cap f ml (nI n))
  refine j_aload_n 0 dJ4_charAt_5068e_0 rfl ?_
  refine j_iload_n 1 dJ4_charAt_5068e_1 rfl ?_
  refine j_cSU [.int (nI i)] dJ4_charAt_5068e_2 rfl cq_329 rcv_sb rfl rfl (Nat.le_of_ble_eq_true rfl) (show d - 1 + 1 ≤ d by omega) (Nat.le_refl _) (Nat.le_refl _) (kJ5_charAt hE (d - 1) (by omega) hi hn hc) ?_
  exact j_zreturn dJ4_charAt_5068e_5 rfl (pk_nc _) (fun _ h => ⟨rfl, h⟩) (Nat.le_refl _) (Nat.le_refl _)
