/-! room for more: newLength, newCapacity, copyOf, ensureCapacityInternal, setLength(0) -/
def gC (cap q : Nat) : Nat := if q ≤ cap then cap else 34
def gK (cap q : Nat) : Nat := if q ≤ cap then 0 else 1
def c16 (cap : Nat) : Prop := cap = 16 ∨ cap = 34
theorem gC_c16 {cap q : Nat} (h : c16 cap) : c16 (gC cap q) := by
  unfold gC
  split
  · exact h
  · exact Or.inr rfl
theorem gC_ge {cap q : Nat} (h : q ≤ 34) : q ≤ gC cap q := by
  unfold gC
  split
  · assumption
  · exact h
theorem gC_le {cap q : Nat} (h : c16 cap) : cap ≤ gC cap q ∧ gC cap q ≤ 34 := by
  unfold gC c16 at *
  split <;> omega
theorem kJ8_newLength {l : Launch} {E : ee} (hE : EOK E) (d : Nat) (hdd : 1 ≤ d) {I : Heap → Prop} {x0 x1 x2 : Int32} (hx : x0 + mxI x1 x2 = 34) : CJ l E yJ8_newLength_cabcc cJ8_newLength_cabcc 4 (some .int) d 0 0 [.int x0, .int x1, .int x2] (I) (fun v H => v = some (.int 34) ∧ I H) := by
  refine CJ.ofWJ hE (by decide) (Nat.le_of_ble_eq_true rfl) ?_
  show WJ l E yJ8_newLength_cabcc cJ8_newLength_cabcc 4 (some .int) d 0 0 (fun v H => v = some (.int 34) ∧ I H) 0 0 0 [(0, .int x0), (1, .int x1), (2, .int x2)] [] (I)
  refine j_iload_n 0 dJ8_newLength_cabcc_0 rfl ?_
  refine j_iload_n 1 dJ8_newLength_cabcc_1 rfl ?_
  refine j_iload_n 2 dJ8_newLength_cabcc_2 rfl ?_
  refine j_max dJ8_newLength_cabcc_3 mx_J8_194 (Nat.le_of_ble_eq_true rfl) (by omega) (Nat.le_refl _) (Nat.le_refl _) ?_
  refine j_iadd dJ8_newLength_cabcc_6 ?_
  refine j_intI (hx) ?_
  refine j_istore_n (lv' := [(3, .int 34), (0, .int x0), (1, .int x1), (2, .int x2)]) dJ8_newLength_cabcc_7 (by decide) rfl ?_
  refine j_iconst (v := (0 : Int32)) dJ8_newLength_cabcc_8 (by decide) ?_
  refine j_iload_n 0 dJ8_newLength_cabcc_9 rfl ?_
  refine j_icmp_ge 21 dJ8_newLength_cabcc_10 (by decide) (fun w => absurd w (by decide)) (fun _ => ?_)
  refine j_iload_n 0 dJ8_newLength_cabcc_13 rfl ?_
  refine j_ldc dJ8_newLength_cabcc_14 kc_J8_200 ?_
  refine j_icmp_gt 21 dJ8_newLength_cabcc_16 (by decide) (fun w => absurd w (by decide)) (fun _ => ?_)
  refine j_iload_n 0 dJ8_newLength_cabcc_19 rfl ?_
  exact j_ireturn dJ8_newLength_cabcc_20 rfl (fun _ h => ⟨rfl, h⟩) (Nat.le_refl _) (Nat.le_refl _)
theorem kJ5_newCapacity {l : Launch} {E : ee} (hE : EOK E) (d : Nat) (hdd : 2 ≤ d) {A : Nat} {f : Nat → Int32} {ml cn : Int32} {q : Nat} (h1 : 16 < q) (h2 : q ≤ 34) : CJ l E yJ5_newCapacity_0f7a4 cJ5_newCapacity_0f7a4 6 (some .int) d 0 0 [.ref (E.1.2.1 209), .int (nI q)] (SBw E A 16 f ml cn) (fun v H => v = some (.int 34) ∧ SBw E A 16 f ml cn H) := by
  refine CJ.ofWJ hE (by decide) (Nat.le_of_ble_eq_true rfl) ?_
  show WJ l E yJ5_newCapacity_0f7a4 cJ5_newCapacity_0f7a4 6 (some .int) d 0 0 (fun v H => v = some (.int 34) ∧ SBw E A 16 f ml cn H) 0 0 0 [(0, .ref (E.1.2.1 209)), (1, .int (nI q))] [] (SBw E A 16 f ml cn)
  refine j_aload_n 0 dJ5_newCapacity_0f7a4_0 rfl ?_
  refine b_value dJ5_newCapacity_0f7a4_1 rfl ?_
  refine b_alen dJ5_newCapacity_0f7a4_4 ?_
  refine j_istore_n (lv' := [(2, .int (nI 16)), (0, .ref (E.1.2.1 209)), (1, .int (nI q))]) dJ5_newCapacity_0f7a4_5 (by decide) rfl ?_
  refine j_iload_n 2 dJ5_newCapacity_0f7a4_6 rfl ?_
  refine j_aload_n 1 dJ5_newCapacity_0f7a4_7 rfl ?_
  refine b_coder dJ5_newCapacity_0f7a4_8 rfl ?_
  refine j_ishl dJ5_newCapacity_0f7a4_11 ?_
  refine j_intI (sb_shl0 _) ?_
  refine j_istore_n (lv' := [(3, .int (nI q)), (2, .int (nI 16)), (0, .ref (E.1.2.1 209)), (1, .int (nI q))]) dJ5_newCapacity_0f7a4_12 (by decide) rfl ?_
  refine j_iload_n 0 dJ5_newCapacity_0f7a4_13 rfl ?_
  refine j_iload_n 1 dJ5_newCapacity_0f7a4_14 rfl ?_
  refine j_isub dJ5_newCapacity_0f7a4_15 ?_
  refine j_intI (show nI q - nI 16 = nI (q - 16) from pk_sub (by omega)) ?_
  refine j_istore (lv' := [(4, .int (nI (q - 16))), (3, .int (nI q)), (2, .int (nI 16)), (0, .ref (E.1.2.1 209)), (1, .int (nI q))]) dJ5_newCapacity_0f7a4_16 (by decide) rfl ?_
  refine j_iload_n 2 dJ5_newCapacity_0f7a4_18 rfl ?_
  refine j_iload 0 dJ5_newCapacity_0f7a4_19 rfl ?_
  refine j_iload_n 2 dJ5_newCapacity_0f7a4_21 rfl ?_
  refine j_iconst (v := (2 : Int32)) dJ5_newCapacity_0f7a4_22 (by decide) ?_
  refine j_aload_n 3 dJ5_newCapacity_0f7a4_23 rfl ?_
  refine b_coder dJ5_newCapacity_0f7a4_24 rfl ?_
  refine j_ishl dJ5_newCapacity_0f7a4_27 ?_
  refine j_intI (sb_shl0 _) ?_
  refine j_iadd dJ5_newCapacity_0f7a4_28 ?_
  refine j_cS [.int (nI 16), .int (nI (q - 16)), .int (nI 16 + 2)] dJ5_newCapacity_0f7a4_29 cs_J5_114 rfl rfl (Nat.le_of_ble_eq_true rfl) (show d - 1 + 1 ≤ d by omega) (Nat.le_refl _) (Nat.le_refl _) (kJ8_newLength hE (d - 1) (by omega) ?_) ?_
  · have h18 : nI 16 + 2 = nI 18 := by decide
    rw [h18]
    unfold mxI
    by_cases h9 : q - 16 < 18
    · rw [if_pos (nI_lt h9 (by decide))]
      decide
    · rw [if_neg (nI_nlt (by omega) (by omega)), show q - 16 = 18 by omega]
      decide
  refine j_istore (lv' := [(5, .int 34), (4, .int (nI (q - 16))), (3, .int (nI q)), (2, .int (nI 16)), (0, .ref (E.1.2.1 209)), (1, .int (nI q))]) dJ5_newCapacity_0f7a4_32 (by decide) rfl ?_
  refine j_iload 0 dJ5_newCapacity_0f7a4_34 rfl ?_
  refine j_ldc dJ5_newCapacity_0f7a4_36 kc_J5_39 ?_
  refine j_icmp_ne 51 dJ5_newCapacity_0f7a4_38 (by decide) (fun _ => ?_) (fun w => absurd w (by decide))
  refine j_iload 0 dJ5_newCapacity_0f7a4_51 rfl ?_
  refine j_aload_n 4 dJ5_newCapacity_0f7a4_53 rfl ?_
  refine b_coder dJ5_newCapacity_0f7a4_54 rfl ?_
  refine j_ishr dJ5_newCapacity_0f7a4_57 ?_
  refine j_intI (sb_shr0 _) ?_
  exact j_ireturn dJ5_newCapacity_0f7a4_58 rfl (fun _ h => ⟨rfl, h⟩) (Nat.le_refl _) (Nat.le_refl _)
theorem kJ7_copyOf {l : Launch} {E : ee} (hE : EOK E) (d : Nat) (hdd : 1 ≤ d) {A : Nat} {f : Nat → Int32} {ml cn : Int32} (hf : sb_Fit f) : CJ l E yJ7_copyOf_9075b cJ7_copyOf_9075b 3 (some (.array .byte)) d 1 34 [.ref A, .int 34] (SBw E A 16 f ml cn) (fun v H => ∃ B, v = some (.ref B) ∧ PD E (wB E.1 A 16 f ml cn ++ [(B, .inl (E.1.2.2.2.1 2, 34, .inl (va_cpy f (fun _ => 0) 0 0 16)))]) H) := by
  refine CJ.ofWJ hE (by decide) (Nat.le_of_ble_eq_true rfl) ?_
  show WJ l E yJ7_copyOf_9075b cJ7_copyOf_9075b 3 (some (.array .byte)) d 1 34 (fun v H => ∃ B, v = some (.ref B) ∧ PD E (wB E.1 A 16 f ml cn ++ [(B, .inl (E.1.2.2.2.1 2, 34, .inl (va_cpy f (fun _ => 0) 0 0 16)))]) H) 0 0 0 [(0, .ref A), (1, .int 34)] [] (SBw E A 16 f ml cn)
  refine j_iload_n 1 dJ7_copyOf_9075b_0 rfl ?_
  refine j_aload_n 0 dJ7_copyOf_9075b_1 rfl ?_
  refine b_alen dJ7_copyOf_9075b_2 ?_
  refine j_icmp_ne 14 dJ7_copyOf_9075b_3 (by decide) (fun _ => ?_) (fun w => absurd w (by decide))
  refine j_iload_n 1 dJ7_copyOf_9075b_14 rfl ?_
  refine j_newb (N := 34) dJ7_copyOf_9075b_15 (by decide) (by decide) (by decide) (Nat.le_refl _) (Nat.le_refl _) (fun B => ?_)
  refine j_astore_n (lv' := [(2, .ref B), (0, .ref A), (1, .int 34)]) dJ7_copyOf_9075b_17 (by decide) rfl ?_
  refine j_aload_n 1 dJ7_copyOf_9075b_18 rfl ?_
  refine j_iconst (v := (0 : Int32)) dJ7_copyOf_9075b_19 (by decide) ?_
  refine j_aload_n 0 dJ7_copyOf_9075b_20 rfl ?_
  refine j_iconst (v := (0 : Int32)) dJ7_copyOf_9075b_21 (by decide) ?_
  refine j_aload_n 1 dJ7_copyOf_9075b_22 rfl ?_
  refine j_alen (q0 := 1) (t0 := 2) (x := (16, .inl f)) (ty := .byte) dJ7_copyOf_9075b_23 rfl rfl ?_
  refine j_iload_n 2 dJ7_copyOf_9075b_24 rfl ?_
  refine j_min dJ7_copyOf_9075b_25 mx_J7_304 (Nat.le_of_ble_eq_true rfl) (by omega) (Nat.le_refl _) (Nat.le_refl _) ?_
  refine j_intI (show mnI (nI 16) 34 = nI 16 by decide) ?_
  refine j_copyb (wB E.1 A 16 f ml cn ++ [(B, .inl (E.1.2.2.2.1 2, 34, .inl (va_cpy f (fun _ => 0) 0 0 16)))]) (q0 := 1) (q1 := 2) dJ7_copyOf_9075b_28 cp_J7_150 rfl rfl (by decide) (by decide) (by decide) (by decide) (by decide) hf (Nat.le_of_ble_eq_true rfl) (by omega) rfl ?_
  refine j_aload_n 0 dJ7_copyOf_9075b_31 rfl ?_
  exact j_areturn dJ7_copyOf_9075b_32 rfl (Or.inr ⟨_, rfl⟩) (fun _ h => ⟨B, rfl, h⟩) (Nat.le_refl _) (Nat.le_refl _)
theorem kJ5_ensure {l : Launch} {E : ee} (hE : EOK E) (d : Nat) (hdd : 3 ≤ d) {A cap : Nat} {f : Nat → Int32} {ml cn : Int32} {q : Nat} (hc : c16 cap) (hq : q ≤ 34) (hf : sb_Fit f) : CJ l E yJ5_ensureCapacityInternal_d00df cJ5_ensureCapacityInternal_d00df 3 none d (gK cap q) (34 * gK cap q) [.ref (E.1.2.1 209), .int (nI q)] (SBw E A cap f ml cn) (fun v H => v = none ∧ ∃ (A' : Nat) (f' : Nat → Int32), (sb_Fit f' ∧ ∀ j, j < cap → f' j = f j) ∧ SBw E A' (gC cap q) f' ml cn H) := by
  refine CJ.ofWJ hE (by decide) (Nat.le_of_ble_eq_true rfl) ?_
  show WJ l E yJ5_ensureCapacityInternal_d00df cJ5_ensureCapacityInternal_d00df 3 none d (gK cap q) (34 * gK cap q) (fun v H => v = none ∧ ∃ (A' : Nat) (f' : Nat → Int32), (sb_Fit f' ∧ ∀ j, j < cap → f' j = f j) ∧ SBw E A' (gC cap q) f' ml cn H) 0 0 0 [(0, .ref (E.1.2.1 209)), (1, .int (nI q))] [] (SBw E A cap f ml cn)
  have hc2 : cap ≤ 34 := by unfold c16 at hc; omega
  refine j_aload_n 0 dJ5_ensureCapacityInternal_d00df_0 rfl ?_
  refine b_value dJ5_ensureCapacityInternal_d00df_1 rfl ?_
  refine b_alen dJ5_ensureCapacityInternal_d00df_4 ?_
  refine j_aload_n 0 dJ5_ensureCapacityInternal_d00df_5 rfl ?_
  refine b_coder dJ5_ensureCapacityInternal_d00df_6 rfl ?_
  refine j_ishr dJ5_ensureCapacityInternal_d00df_9 ?_
  refine j_intI (sb_shr0 _) ?_
  refine j_istore_n (lv' := [(2, .int (nI cap)), (0, .ref (E.1.2.1 209)), (1, .int (nI q))]) dJ5_ensureCapacityInternal_d00df_10 (by decide) rfl ?_
  refine j_iload_n 2 dJ5_ensureCapacityInternal_d00df_11 rfl ?_
  refine j_iload_n 0 dJ5_ensureCapacityInternal_d00df_12 rfl ?_
  refine j_isub dJ5_ensureCapacityInternal_d00df_13 ?_
  refine j_if_le 38 dJ5_ensureCapacityInternal_d00df_14 (by decide) (fun h => ?_) (fun h => ?_)
  · have h1 : q ≤ cap := (le_sub0 (by omega) (by omega)).mp h
    exact j_return dJ5_ensureCapacityInternal_d00df_38 rfl (fun H hH => ⟨rfl, A, f, ⟨hf, fun _ _ => rfl⟩, by unfold gC; rw [if_pos h1]; exact hH⟩) (Nat.zero_le _) (Nat.zero_le _)
  have h1 : ¬ q ≤ cap := fun w => h ((le_sub0 (by omega) (by omega)).mpr w)
  have hcap : cap = 16 := by unfold c16 at hc; omega
  subst hcap
  have e1 : gK 16 q = 1 := if_neg h1
  have e2 : gC 16 q = 34 := if_neg h1
  rw [e1, e2]
  refine j_aload_n 1 dJ5_ensureCapacityInternal_d00df_17 rfl ?_
  refine j_aload_n 1 dJ5_ensureCapacityInternal_d00df_18 rfl ?_
  refine b_value dJ5_ensureCapacityInternal_d00df_19 rfl ?_
  refine j_aload_n 1 dJ5_ensureCapacityInternal_d00df_22 rfl ?_
  refine j_iload_n 2 dJ5_ensureCapacityInternal_d00df_23 rfl ?_
  refine j_cU [.int (nI q)] dJ5_ensureCapacityInternal_d00df_24 rfl cu_104 rcv_sb rfl rfl (Nat.le_of_ble_eq_true rfl) (show d - 1 + 1 ≤ d by omega) (Nat.zero_le _) (Nat.zero_le _) (kJ5_newCapacity hE (d - 1) (by omega) (by omega) hq) ?_
  refine j_aload_n 1 dJ5_ensureCapacityInternal_d00df_27 rfl ?_
  refine b_coder dJ5_ensureCapacityInternal_d00df_28 rfl ?_
  refine j_ishl dJ5_ensureCapacityInternal_d00df_31 ?_
  refine j_intI (sb_shl0 _) ?_
  refine j_callS (O2 := E.2.2.2.2) (I2 := SBw E A 16 f ml cn) [.ref A, .int 34] dJ5_ensureCapacityInternal_d00df_32 cs_J5_108 rfl rfl (Nat.le_of_ble_eq_true rfl) (show d - 1 + 1 ≤ d by omega) (Nat.le_refl _) (Nat.le_refl _) (kJ7_copyOf hE (d - 1) (by omega) hf) (fun _ h => h) (fun _ h => h) (fun v => ?_)
  refine j_imp (I' := fun H => ∃ B : Nat, v = some (.ref B) ∧ PD E (wB E.1 A 16 f ml cn ++ [(B, .inl (E.1.2.2.2.1 2, 34, .inl (va_cpy f (fun _ => 0) 0 0 16)))]) H) (fun H h => by obtain ⟨H0, i0, i1, i2, i3⟩ := h; exact i1) (j_ex (fun B => j_pure (fun hv => ?_)))
  subst hv
  refine j_put [(E.1.2.1 209, .inr (0, [.ref B, .int 0, .int ml, .int cn])), (A, .inl (E.1.2.2.2.1 2, 16, .inl f)), (B, .inl (E.1.2.2.2.1 2, 34, .inl (va_cpy f (fun _ => 0) 0 0 16)))] (q0 := 0) (ci := 0) (j := 0) dJ5_ensureCapacityInternal_d00df_35 fd_J5_15 rfl rfl rfl (Nat.le_of_ble_eq_true rfl) rfl ?_
  exact j_return dJ5_ensureCapacityInternal_d00df_38 rfl (fun H hH => ⟨rfl, B, va_cpy f (fun _ => 0) 0 0 16, ⟨sb_fitC hf sb_fit0, fun j hj => sb_cpy0 hj⟩, hH.sub [0, 2] rfl rfl rfl⟩) (Nat.le_refl _) (Nat.le_refl _)
theorem kJ5_setLength {l : Launch} {E : ee} (hE : EOK E) (d : Nat) (hdd : 4 ≤ d) {A cap : Nat} {f : Nat → Int32} {ml : Int32} {n : Nat} (hc : c16 cap) (hn : n ≤ 34) (hf : sb_Fit f) : CJ l E yJ5_setLength_d00df cJ5_setLength_d00df 2 none d 0 0 [.ref (E.1.2.1 209), .int 0] (SBw E A cap f ml (nI n)) (fun v H => v = none ∧ ∃ (A' : Nat) (f' : Nat → Int32), (sb_Fit f') ∧ ∃ ml', SBw E A' cap f' ml' 0 H) := by
  refine CJ.ofWJ hE (by decide) (Nat.le_of_ble_eq_true rfl) ?_
  show WJ l E yJ5_setLength_d00df cJ5_setLength_d00df 2 none d 0 0 (fun v H => v = none ∧ ∃ (A' : Nat) (f' : Nat → Int32), (sb_Fit f') ∧ ∃ ml', SBw E A' cap f' ml' 0 H) 0 0 0 [(0, .ref (E.1.2.1 209)), (1, .int 0)] [] (SBw E A cap f ml (nI n))
  refine j_iload_n 1 dJ5_setLength_d00df_0 rfl ?_
  refine j_if_ge 13 dJ5_setLength_d00df_1 (by decide) (fun _ => ?_) (fun w => absurd (by decide) w)
  refine j_aload_n 0 dJ5_setLength_d00df_13 rfl ?_
  refine j_iload_n 1 dJ5_setLength_d00df_14 rfl ?_
  have e0 : gK cap 0 = 0 := if_pos (Nat.zero_le _)
  have e1 : gC cap 0 = cap := if_pos (Nat.zero_le _)
  have hM := kJ5_ensure (l := l) hE (d - 1) (A := A) (cap := cap) (f := f) (ml := ml) (cn := nI n) (q := 0) (by omega) hc (by omega) hf
  rw [e0, e1] at hM
  refine j_cU [.int 0] dJ5_setLength_d00df_15 rfl cu_100 rcv_sb rfl rfl (Nat.le_of_ble_eq_true rfl) (show d - 1 + 1 ≤ d by omega) (Nat.le_refl _) (Nat.le_refl _) hM ?_
  refine j_ex2 (fun A' f' hf' => ?_)
  refine j_aload_n 0 dJ5_setLength_d00df_18 rfl ?_
  refine b_count dJ5_setLength_d00df_19 rfl ?_
  refine j_iload_n 1 dJ5_setLength_d00df_22 rfl ?_
  refine j_icmp_ge 63 dJ5_setLength_d00df_23 (by decide) (fun _ => ?_) (fun w => absurd (nI_pos' (by omega)) w)
  refine j_aload_n 0 dJ5_setLength_d00df_63 rfl ?_
  refine b_count dJ5_setLength_d00df_64 rfl ?_
  refine j_iload_n 1 dJ5_setLength_d00df_67 rfl ?_
  refine j_icmp_le 76 dJ5_setLength_d00df_68 (by decide) (fun _ => ?_) (fun _ => ?_)
  · refine j_aload_n 0 dJ5_setLength_d00df_76 rfl ?_
    refine j_iload_n 1 dJ5_setLength_d00df_77 rfl ?_
    refine b_putcount dJ5_setLength_d00df_78 rfl ?_
    exact j_return dJ5_setLength_d00df_81 rfl (fun H hH => ⟨rfl, A', f', hf'.1, ml, hH⟩) (Nat.le_refl _) (Nat.le_refl _)
  · refine j_aload_n 0 dJ5_setLength_d00df_71 rfl ?_
    refine j_iconst (v := (1 : Int32)) dJ5_setLength_d00df_72 (by decide) ?_
    refine b_putml dJ5_setLength_d00df_73 rfl (by decide) ?_
    refine j_aload_n 0 dJ5_setLength_d00df_76 rfl ?_
    refine j_iload_n 1 dJ5_setLength_d00df_77 rfl ?_
    refine b_putcount dJ5_setLength_d00df_78 rfl ?_
    exact j_return dJ5_setLength_d00df_81 rfl (fun H hH => ⟨rfl, A', f', hf'.1, 1, hH⟩) (Nat.le_refl _) (Nat.le_refl _)
theorem kJ4_setLength {l : Launch} {E : ee} (hE : EOK E) (d : Nat) (hdd : 5 ≤ d) {A cap : Nat} {f : Nat → Int32} {ml : Int32} {n : Nat} (hc : c16 cap) (hn : n ≤ 34) (hf : sb_Fit f) : CJ l E yJ4_setLength_d00df cJ4_setLength_d00df 2 none d 0 0 [.ref (E.1.2.1 209), .int 0] (SBw E A cap f ml (nI n)) (fun v H => v = none ∧ ∃ (A' : Nat) (f' : Nat → Int32), (sb_Fit f') ∧ ∃ ml', SBw E A' cap f' ml' 0 H) := by
  refine CJ.ofWJ hE (by decide) (Nat.le_of_ble_eq_true rfl) ?_
  show WJ l E yJ4_setLength_d00df cJ4_setLength_d00df 2 none d 0 0 (fun v H => v = none ∧ ∃ (A' : Nat) (f' : Nat → Int32), (sb_Fit f') ∧ ∃ ml', SBw E A' cap f' ml' 0 H) 0 0 0 [(0, .ref (E.1.2.1 209)), (1, .int 0)] [] (SBw E A cap f ml (nI n))
  refine j_aload_n 0 dJ4_setLength_d00df_0 rfl ?_
  refine j_iload_n 1 dJ4_setLength_d00df_1 rfl ?_
  refine j_cSU [.int 0] dJ4_setLength_d00df_2 rfl cq_333 rcv_sb rfl rfl (Nat.le_of_ble_eq_true rfl) (show d - 1 + 1 ≤ d by omega) (Nat.le_refl _) (Nat.le_refl _) (kJ5_setLength hE (d - 1) (by omega) hc hn hf) ?_
  exact j_return dJ4_setLength_d00df_5 rfl (fun _ h => ⟨rfl, h⟩) (Nat.le_refl _) (Nat.le_refl _)
