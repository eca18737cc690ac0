/-! append of a number, of a constant text; the three of StringBuilder -/
theorem gcT_at {f : Nat → Int32} {p w j : Nat} (h : j < p - ndg w) : gcT f p w j = f j := by
  unfold gcT ndg at *
  split at h
  · rename_i h1
    rw [if_pos h1, pk_un (by omega)]
  · rename_i h1
    rw [if_neg h1]
    split at h
    · rw [pk_un (by omega), pk_un (by omega)]
    · rw [pk_un (by omega), pk_un (by omega)]
theorem fit_dgt (x : Nat) : fits .byte (.int (dgt x)) = true := by
  unfold dgt
  rw [vp_nar_byte]
  exact pk_fb _
theorem gcT_fit {f : Nat → Int32} {p w : Nat} (h : sb_Fit f) : sb_Fit (gcT f p w) := by
  unfold gcT
  split
  · exact sb_fitU h (fit_dgt _)
  · exact sb_fitU (sb_fitU h (fit_dgt _)) (fit_dgt _)
theorem dgt_by {x : Nat} (h : x ≤ 9) : dgt x = byI (48 + (x : Int)) := by
  unfold dgt byI sb_b
  rw [vp_nar_byte, show (48 + (x : Int)).toNat = 48 + x by omega]
theorem gc_AP {f : Nat → Int32} {n z : Nat} (hz : z < 1000) (hf : sb_Fit f) : AP f (gcA f (n + ndg z) z) n (digs 3 z) ∧ (digs 3 z).length = ndg z := by
  by_cases h1 : z ≤ 9
  · have e1 : ndg z = 1 := if_pos h1
    have e2 : digs 3 z = [48 + (z : Int)] := by
      unfold digs
      rw [if_pos h1]
    have e3 : gcA f (n + ndg z) z = upd f n (dgt (z % 10)) := by
      unfold gcA gcT
      rw [if_pos (by omega), if_pos h1, e1, Nat.add_sub_cancel]
    rw [e3, e2, e1]
    refine ⟨⟨sb_fitU hf (fit_dgt _), fun j hj => pk_un (by omega), fun j hj => ?_⟩, rfl⟩
    have h0 : j = 0 := by simpa using hj
    subst h0
    show upd f n (dgt (z % 10)) n = _
    rw [pk_us, show z % 10 = z by omega, dgt_by h1]
    rfl
  · by_cases h2 : z ≤ 99
    · have e1 : ndg z = 2 := by unfold ndg; rw [if_neg h1, if_pos h2]
      have e2 : digs 3 z = [48 + ((z / 10 : Nat) : Int), 48 + ((z % 10 : Nat) : Int)] := by
        unfold digs
        rw [if_neg h1]
        unfold digs
        rw [if_pos (by omega)]
        rfl
      have e3 : gcA f (n + ndg z) z = upd (upd f (n + 1) (dgt (z % 10))) n (dgt (z / 10)) := by
        unfold gcA gcT
        rw [if_pos h2, if_neg h1, e1, show n + 2 - 1 = n + 1 by omega, Nat.add_sub_cancel]
      rw [e3, e2, e1]
      refine ⟨⟨sb_fitU (sb_fitU hf (fit_dgt _)) (fit_dgt _), fun j hj => ?_, fun j hj => ?_⟩, rfl⟩
      · rw [pk_un (by omega), pk_un (by omega)]
      · have h0 : j = 0 ∨ j = 1 := by
          have : j < 2 := hj
          omega
        rcases h0 with rfl | rfl
        · show upd (upd f (n + 1) _) n _ n = _
          rw [pk_us, dgt_by (by omega)]
          rfl
        · show upd (upd f (n + 1) _) n _ (n + 1) = _
          rw [pk_un (by omega), pk_us, dgt_by (by omega)]
          rfl
    · have e1 : ndg z = 3 := by unfold ndg; rw [if_neg h1, if_neg h2]
      have e2 : digs 3 z = [48 + ((z / 100 : Nat) : Int), 48 + ((z / 10 % 10 : Nat) : Int), 48 + ((z % 10 : Nat) : Int)] := by
        unfold digs
        rw [if_neg h1]
        unfold digs
        rw [if_neg (by omega)]
        unfold digs
        rw [if_pos (by omega), show z / 10 / 10 = z / 100 by omega]
        rfl
      have e3 : gcA f (n + ndg z) z = upd (upd (upd f (n + 2) (dgt (z % 10))) (n + 1) (dgt (z / 10 % 10))) n (dgt (z / 100)) := by
        unfold gcA gcT
        rw [if_neg h2, if_pos (by omega), e1, show n + 3 - 1 = n + 2 by omega, show n + 3 - 2 = n + 1 by omega, show n + 1 - 1 = n by omega, show z % 100 % 10 = z % 10 by omega, show z % 100 / 10 = z / 10 % 10 by omega, show z / 100 % 10 = z / 100 by omega]
      rw [e3, e2, e1]
      refine ⟨⟨sb_fitU (sb_fitU (sb_fitU hf (fit_dgt _)) (fit_dgt _)) (fit_dgt _), fun j hj => ?_, fun j hj => ?_⟩, rfl⟩
      · rw [pk_un (by omega), pk_un (by omega), pk_un (by omega)]
      · have h0 : j = 0 ∨ j = 1 ∨ j = 2 := by
          have : j < 3 := hj
          omega
        rcases h0 with rfl | rfl | rfl
        · show upd (upd (upd f (n + 2) _) (n + 1) _) n _ n = _
          rw [pk_us, dgt_by (by omega)]
          rfl
        · show upd (upd (upd f (n + 2) _) (n + 1) _) n _ (n + 1) = _
          rw [pk_un (by omega), pk_us, dgt_by (by omega)]
          rfl
        · show upd (upd (upd f (n + 2) _) (n + 1) _) n _ (n + 2) = _
          rw [pk_un (by omega), pk_un (by omega), pk_us, dgt_by (by omega)]
          rfl
theorem AP.trans {f f1 f2 : Nat → Int32} {n m : Nat} {L : List Int} (h1 : ∀ j, j < m → f1 j = f j) (hm : n ≤ m) (h : AP f1 f2 n L) : AP f f2 n L := ⟨h.1, fun j hj => (h.2.1 j hj).trans (h1 j (by omega)), h.2.2⟩
theorem ndg_le (z : Nat) : 1 ≤ ndg z ∧ ndg z ≤ 3 := by
  unfold ndg
  split
  · omega
  · split <;> omega
theorem kJ5_appendI {l : Launch} {E : ee} (hE : EOK E) (d : Nat) (hdd : 4 ≤ d) {A cap : Nat} {f : Nat → Int32} {ml : Int32} {n z : Nat} (hc : c16 cap) (hn : n ≤ cap) (h34 : n + ndg z ≤ 34) (hf : sb_Fit f) (hz : z < 1000) : CJ l E yJ5_append_c97b9 cJ5_append_c97b9 4 (some (.object "java/lang/AbstractStringBuilder")) d (gK cap (n + ndg z)) (34 * gK cap (n + ndg z)) [.ref (E.1.2.1 209), .int (nI z)] (SBw E A cap f ml (nI n)) (fun v H => v = some (.ref (E.1.2.1 209)) ∧ ∃ (A' : Nat) (f' : Nat → Int32), AP f f' n (digs 3 z) ∧ SBw E A' (gC cap (n + ndg z)) f' ml (nI (n + ndg z)) H) := by
  refine CJ.ofWJ hE (by decide) (Nat.le_of_ble_eq_true rfl) ?_
  show WJ l E yJ5_append_c97b9 cJ5_append_c97b9 4 (some (.object "java/lang/AbstractStringBuilder")) d (gK cap (n + ndg z)) (34 * gK cap (n + ndg z)) (fun v H => v = some (.ref (E.1.2.1 209)) ∧ ∃ (A' : Nat) (f' : Nat → Int32), AP f f' n (digs 3 z) ∧ SBw E A' (gC cap (n + ndg z)) f' ml (nI (n + ndg z)) H) 0 0 0 [(0, .ref (E.1.2.1 209)), (1, .int (nI z))] [] (SBw E A cap f ml (nI n))
  have hg := gC_ge (cap := cap) h34
  have hg2 := (gC_le (q := n + ndg z) hc).2
  have hnd := ndg_le z
  refine j_aload_n 0 dJ5_append_c97b9_0 rfl ?_
  refine b_count dJ5_append_c97b9_1 rfl ?_
  refine j_istore_n (lv' := [(2, .int (nI n)), (0, .ref (E.1.2.1 209)), (1, .int (nI z))]) dJ5_append_c97b9_4 (by decide) rfl ?_
  refine j_iload_n 0 dJ5_append_c97b9_5 rfl ?_
  refine j_iload_n 2 dJ5_append_c97b9_6 rfl ?_
  refine j_cS [.int (nI z)] dJ5_append_c97b9_7 cs_J5_245 rfl rfl (Nat.le_of_ble_eq_true rfl) (show d - 1 + 1 ≤ d by omega) (Nat.zero_le _) (Nat.zero_le _) (kJ6_stringSize hE (d - 1) hz) ?_
  refine j_iadd dJ5_append_c97b9_10 ?_
  refine j_intI (nI_add n (ndg z)) ?_
  refine j_istore_n (lv' := [(3, .int (nI (n + ndg z))), (2, .int (nI n)), (0, .ref (E.1.2.1 209)), (1, .int (nI z))]) dJ5_append_c97b9_11 (by decide) rfl ?_
  refine j_aload_n 2 dJ5_append_c97b9_12 rfl ?_
  refine j_iload_n 0 dJ5_append_c97b9_13 rfl ?_
  refine j_cU [.int (nI (n + ndg z))] dJ5_append_c97b9_14 rfl cu_100 rcv_sb rfl rfl (Nat.le_of_ble_eq_true rfl) (show d - 1 + 1 ≤ d by omega) (Nat.le_of_eq (by omega)) (Nat.le_of_eq (by omega)) (kJ5_ensure hE (d - 1) (by omega) hc h34 hf) ?_
  refine j_ex2 (fun A' f' hf' => ?_)
  refine j_aload_n 2 dJ5_append_c97b9_17 rfl ?_
  refine j_cU [] dJ5_append_c97b9_18 rfl cu_83 rcv_sb rfl rfl (Nat.le_of_ble_eq_true rfl) (show d - 1 + 1 ≤ d by omega) (Nat.le_of_eq (by omega)) (Nat.le_of_eq (by omega)) (kJ5_isLatin1 hE (d - 1)) ?_
  refine j_if_eq 37 dJ5_append_c97b9_21 (by decide) (fun w => absurd w (by decide)) (fun _ => ?_)
  refine j_iload_n 3 dJ5_append_c97b9_24 rfl ?_
  refine j_iload_n 0 dJ5_append_c97b9_25 rfl ?_
  refine j_aload_n 2 dJ5_append_c97b9_26 rfl ?_
  refine b_value dJ5_append_c97b9_27 rfl ?_
  refine j_cS [.int (nI z), .int (nI (n + ndg z)), .ref A'] dJ5_append_c97b9_30 cs_J5_248 rfl rfl (Nat.le_of_ble_eq_true rfl) (show d - 1 + 1 ≤ d by omega) (Nat.le_of_eq (by omega)) (Nat.le_of_eq (by omega)) (kJ6_getChars hE (d - 1) hz (by omega) hg hg2) ?_
  refine j_pop dJ5_append_c97b9_33 rfl ?_
  refine j_goto 48 dJ5_append_c97b9_34 (by decide) ?_
  refine j_aload_n 2 dJ5_append_c97b9_48 rfl ?_
  refine j_iload_n 0 dJ5_append_c97b9_49 rfl ?_
  refine b_putcount dJ5_append_c97b9_50 rfl ?_
  refine j_aload_n 2 dJ5_append_c97b9_53 rfl ?_
  exact j_areturn dJ5_append_c97b9_54 rfl (Or.inl ⟨_, rfl⟩) (fun H hH => ⟨rfl, A', _, AP.trans hf'.2 hn (gc_AP (n := n) hz hf'.1).1, hH⟩) (Nat.le_of_eq (by omega)) (Nat.le_of_eq (by omega))
theorem kJ0_coder {l : Launch} {E : ee} (hE : EOK E) (d : Nat) {I : Heap → Prop} {i : Nat} (hi : i < 4) : CJ l E yJ0_coder_7d493 cJ0_coder_7d493 1 (some .byte) d 0 0 [.ref (E.2.1.2 i).1] (I) (fun v H => v = some (.int 0) ∧ I H) := by
  refine CJ.ofWJ hE (by decide) (Nat.le_of_ble_eq_true rfl) ?_
  show WJ l E yJ0_coder_7d493 cJ0_coder_7d493 1 (some .byte) d 0 0 (fun v H => v = some (.int 0) ∧ I H) 0 0 0 [(0, .ref (E.2.1.2 i).1)] [] (I)
  refine j_gets dJ0_coder_7d493_0 fl_J0_38 z_compact ?_
  refine j_if_eq 13 dJ0_coder_7d493_3 (by decide) (fun w => absurd w (by decide)) (fun _ => ?_)
  refine j_aload_n 0 dJ0_coder_7d493_6 rfl ?_
  refine j_getK (v := .int 0) dJ0_coder_7d493_7 fl_J0_15 (fun s h => (h.2.2.2.2.1.2.2.2.2.2 i hi).2.1) ?_
  refine j_goto 14 dJ0_coder_7d493_10 (by decide) ?_
  exact j_zreturn dJ0_coder_7d493_14 rfl rfl (fun _ h => ⟨rfl, h⟩) (Nat.le_refl _) (Nat.le_refl _)
theorem kJ0_length {l : Launch} {E : ee} (hE : EOK E) (d : Nat) (hdd : 1 ≤ d) {I : Heap → Prop} {i : Nat} (hi : i < 4) : CJ l E yJ0_length_8abf5 cJ0_length_8abf5 1 (some .int) d 0 0 [.ref (E.2.1.2 i).1] (I) (fun v H => v = some (.int (nI (sLt i).length)) ∧ I H) := by
  refine CJ.ofWJ hE (by decide) (Nat.le_of_ble_eq_true rfl) ?_
  show WJ l E yJ0_length_8abf5 cJ0_length_8abf5 1 (some .int) d 0 0 (fun v H => v = some (.int (nI (sLt i).length)) ∧ I H) 0 0 0 [(0, .ref (E.2.1.2 i).1)] [] (I)
  refine j_aload_n 0 dJ0_length_8abf5_0 rfl ?_
  refine j_getK (v := .ref (E.2.1.2 i).2) dJ0_length_8abf5_1 fl_J0_9 (fun s h => (h.2.2.2.2.1.2.2.2.2.2 i hi).2.2.1) ?_
  refine j_tlen dJ0_length_8abf5_4 (fun s h => (h.2.2.2.2.1.2.2.2.2.2 i hi).2.2.2) ?_
  refine j_aload_n 0 dJ0_length_8abf5_5 rfl ?_
  refine j_cV [] dJ0_length_8abf5_6 cv_J0_335 (rcv_sk hi) rfl rfl (Nat.le_of_ble_eq_true rfl) (show d - 1 + 1 ≤ d by omega) (Nat.le_refl _) (Nat.le_refl _) (kJ0_coder hE (d - 1) hi) ?_
  refine j_ishr dJ0_length_8abf5_9 ?_
  refine j_intI (sb_shr0 _) ?_
  exact j_ireturn dJ0_length_8abf5_10 rfl (fun _ h => ⟨rfl, h⟩) (Nat.le_refl _) (Nat.le_refl _)
theorem kJ5_inflateIf {l : Launch} {E : ee} (hE : EOK E) (d : Nat) (hdd : 1 ≤ d) {A cap : Nat} {f : Nat → Int32} {ml cn : Int32} {i : Nat} (hi : i < 4) : CJ l E yJ5_inflateIfNeededFor_a7421 cJ5_inflateIfNeededFor_a7421 2 none d 0 0 [.ref (E.1.2.1 209), .ref (E.2.1.2 i).1] (SBw E A cap f ml cn) (fun v H => v = none ∧ SBw E A cap f ml cn H) := by
  refine CJ.ofWJ hE (by decide) (Nat.le_of_ble_eq_true rfl) ?_
  show WJ l E yJ5_inflateIfNeededFor_a7421 cJ5_inflateIfNeededFor_a7421 2 none d 0 0 (fun v H => v = none ∧ SBw E A cap f ml cn H) 0 0 0 [(0, .ref (E.1.2.1 209)), (1, .ref (E.2.1.2 i).1)] [] (SBw E A cap f ml cn)
  refine j_gets dJ5_inflateIfNeededFor_a7421_0 fw_J5_18 z_compact ?_
  refine j_if_eq 21 dJ5_inflateIfNeededFor_a7421_3 (by decide) (fun w => absurd w (by decide)) (fun _ => ?_)
  refine j_aload_n 0 dJ5_inflateIfNeededFor_a7421_6 rfl ?_
  refine b_coder dJ5_inflateIfNeededFor_a7421_7 rfl ?_
  refine j_aload_n 1 dJ5_inflateIfNeededFor_a7421_10 rfl ?_
  refine j_cV [] dJ5_inflateIfNeededFor_a7421_11 cv_J5_40 (rcv_sk hi) rfl rfl (Nat.le_of_ble_eq_true rfl) (show d - 1 + 1 ≤ d by omega) (Nat.le_refl _) (Nat.le_refl _) (kJ0_coder hE (d - 1) hi) ?_
  refine j_icmp_eq 21 dJ5_inflateIfNeededFor_a7421_14 (by decide) (fun _ => ?_) (fun w => absurd (rfl) w)
  exact j_return dJ5_inflateIfNeededFor_a7421_21 rfl (fun _ h => ⟨rfl, h⟩) (Nat.le_refl _) (Nat.le_refl _)
theorem sLt_len : ∀ i, i < 4 → (sLt i).length ≤ 9 := by decide
theorem kJ0_getBytes {l : Launch} {E : ee} (hE : EOK E) (d : Nat) (hdd : 1 ≤ d) {A cap : Nat} {f : Nat → Int32} {ml cn : Int32} {i n : Nat} (hi : i < 4) (hn : n + (sLt i).length ≤ cap) (hc : cap ≤ 34) : CJ l E yJ0_getBytes_840e7 cJ0_getBytes_840e7 4 none d 0 0 [.ref (E.2.1.2 i).1, .ref A, .int (nI n), .int 0] (SBw E A cap f ml cn) (fun v H => v = none ∧ SBw E A cap (va_cpy (fun j => byI ((sLt i).getD j 0)) f 0 n (sLt i).length) ml cn H) := by
  refine CJ.ofWJ hE (by decide) (Nat.le_of_ble_eq_true rfl) ?_
  show WJ l E yJ0_getBytes_840e7 cJ0_getBytes_840e7 4 none d 0 0 (fun v H => v = none ∧ SBw E A cap (va_cpy (fun j => byI ((sLt i).getD j 0)) f 0 n (sLt i).length) ml cn H) 0 0 0 [(0, .ref (E.2.1.2 i).1), (1, .ref A), (2, .int (nI n)), (3, .int 0)] [] (SBw E A cap f ml cn)
  have h9 := sLt_len i hi
  refine j_aload_n 0 dJ0_getBytes_840e7_0 rfl ?_
  refine j_cV [] dJ0_getBytes_840e7_1 cv_J0_335 (rcv_sk hi) rfl rfl (Nat.le_of_ble_eq_true rfl) (show d - 1 + 1 ≤ d by omega) (Nat.le_refl _) (Nat.le_refl _) (kJ0_coder hE (d - 1) hi) ?_
  refine j_iload_n 3 dJ0_getBytes_840e7_4 rfl ?_
  refine j_icmp_ne 28 dJ0_getBytes_840e7_5 (by decide) (fun w => absurd w (fun w => w rfl)) (fun _ => ?_)
  refine j_aload_n 0 dJ0_getBytes_840e7_8 rfl ?_
  refine j_getK (v := .ref (E.2.1.2 i).2) dJ0_getBytes_840e7_9 fl_J0_9 (fun s h => (h.2.2.2.2.1.2.2.2.2.2 i hi).2.2.1) ?_
  refine j_iconst (v := (0 : Int32)) dJ0_getBytes_840e7_12 (by decide) ?_
  refine j_aload_n 1 dJ0_getBytes_840e7_13 rfl ?_
  refine j_iload_n 2 dJ0_getBytes_840e7_14 rfl ?_
  refine j_iload_n 3 dJ0_getBytes_840e7_15 rfl ?_
  refine j_ishl dJ0_getBytes_840e7_16 ?_
  refine j_intI (sb_shl0 _) ?_
  refine j_aload_n 0 dJ0_getBytes_840e7_17 rfl ?_
  refine j_getK (v := .ref (E.2.1.2 i).2) dJ0_getBytes_840e7_18 fl_J0_9 (fun s h => (h.2.2.2.2.1.2.2.2.2.2 i hi).2.2.1) ?_
  refine j_tlen dJ0_getBytes_840e7_21 (fun s h => (h.2.2.2.2.1.2.2.2.2.2 i hi).2.2.2) ?_
  refine j_copyT (wB E.1 A cap (va_cpy (fun j => byI ((sLt i).getD j 0)) f 0 n (sLt i).length) ml cn) (q1 := 1) (f := (fun j => byI ((sLt i).getD j 0))) dJ0_getBytes_840e7_22 cp_J0_212 (fun s h => (h.2.2.2.2.1.2.2.2.2.2 i hi).2.2.2) rfl (by decide) (nI_pos (by omega)) (nI_pos (by omega)) (by rw [nI_clamp (by omega), show (0 : Int32).toNatClampNeg = 0 from rfl]; omega) (by rw [nI_clamp (by omega), nI_clamp (by omega)]; exact hn) (byI_fit _) (Nat.le_of_ble_eq_true rfl) (by omega) (by rw [nI_clamp (by omega), nI_clamp (by omega)]; rfl) ?_
  refine j_goto 43 dJ0_getBytes_840e7_25 (by decide) ?_
  exact j_return dJ0_getBytes_840e7_43 rfl (fun _ h => ⟨rfl, h⟩) (Nat.le_refl _) (Nat.le_refl _)
theorem kJ5_putString {l : Launch} {E : ee} (hE : EOK E) (d : Nat) (hdd : 2 ≤ d) {A cap : Nat} {f : Nat → Int32} {ml cn : Int32} {i n : Nat} (hi : i < 4) (hn : n + (sLt i).length ≤ cap) (hc : cap ≤ 34) : CJ l E yJ5_putStringAt_47b60 cJ5_putStringAt_47b60 3 none d 0 0 [.ref (E.1.2.1 209), .int (nI n), .ref (E.2.1.2 i).1] (SBw E A cap f ml cn) (fun v H => v = none ∧ SBw E A cap (va_cpy (fun j => byI ((sLt i).getD j 0)) f 0 n (sLt i).length) ml cn H) := by
  refine CJ.ofWJ hE (by decide) (Nat.le_of_ble_eq_true rfl) ?_
  show WJ l E yJ5_putStringAt_47b60 cJ5_putStringAt_47b60 3 none d 0 0 (fun v H => v = none ∧ SBw E A cap (va_cpy (fun j => byI ((sLt i).getD j 0)) f 0 n (sLt i).length) ml cn H) 0 0 0 [(0, .ref (E.1.2.1 209)), (1, .int (nI n)), (2, .ref (E.2.1.2 i).1)] [] (SBw E A cap f ml cn)
  refine j_aload_n 0 dJ5_putStringAt_47b60_0 rfl ?_
  refine j_aload_n 2 dJ5_putStringAt_47b60_1 rfl ?_
  refine j_cU [.ref (E.2.1.2 i).1] dJ5_putStringAt_47b60_2 rfl cu_397 rcv_sb rfl rfl (Nat.le_of_ble_eq_true rfl) (show d - 1 + 1 ≤ d by omega) (Nat.le_refl _) (Nat.le_refl _) (kJ5_inflateIf hE (d - 1) (by omega) hi) ?_
  refine j_aload_n 2 dJ5_putStringAt_47b60_5 rfl ?_
  refine j_aload_n 0 dJ5_putStringAt_47b60_6 rfl ?_
  refine b_value dJ5_putStringAt_47b60_7 rfl ?_
  refine j_iload_n 1 dJ5_putStringAt_47b60_10 rfl ?_
  refine j_aload_n 0 dJ5_putStringAt_47b60_11 rfl ?_
  refine b_coder dJ5_putStringAt_47b60_12 rfl ?_
  refine j_cV [.ref A, .int (nI n), .int 0] dJ5_putStringAt_47b60_15 cv_J5_399 (rcv_sk hi) rfl rfl (Nat.le_of_ble_eq_true rfl) (show d - 1 + 1 ≤ d by omega) (Nat.le_refl _) (Nat.le_refl _) (kJ0_getBytes hE (d - 1) (by omega) hi hn hc) ?_
  exact j_return dJ5_putStringAt_47b60_18 rfl (fun _ h => ⟨rfl, h⟩) (Nat.le_refl _) (Nat.le_refl _)
theorem kJ5_appendS {l : Launch} {E : ee} (hE : EOK E) (d : Nat) (hdd : 4 ≤ d) {A cap : Nat} {f : Nat → Int32} {ml : Int32} {n i : Nat} (hc : c16 cap) (hn : n ≤ cap) (h34 : n + (sLt i).length ≤ 34) (hf : sb_Fit f) (hi : i < 4) : CJ l E yJ5_append_cf1ce cJ5_append_cf1ce 3 (some (.object "java/lang/AbstractStringBuilder")) d (gK cap (n + (sLt i).length)) (34 * gK cap (n + (sLt i).length)) [.ref (E.1.2.1 209), .ref (E.2.1.2 i).1] (SBw E A cap f ml (nI n)) (fun v H => v = some (.ref (E.1.2.1 209)) ∧ ∃ (A' : Nat) (f' : Nat → Int32), AP f f' n (sLt i) ∧ SBw E A' (gC cap (n + (sLt i).length)) f' ml (nI (n + (sLt i).length)) H) := by
  refine CJ.ofWJ hE (by decide) (Nat.le_of_ble_eq_true rfl) ?_
  show WJ l E yJ5_append_cf1ce cJ5_append_cf1ce 3 (some (.object "java/lang/AbstractStringBuilder")) d (gK cap (n + (sLt i).length)) (34 * gK cap (n + (sLt i).length)) (fun v H => v = some (.ref (E.1.2.1 209)) ∧ ∃ (A' : Nat) (f' : Nat → Int32), AP f f' n (sLt i) ∧ SBw E A' (gC cap (n + (sLt i).length)) f' ml (nI (n + (sLt i).length)) H) 0 0 0 [(0, .ref (E.1.2.1 209)), (1, .ref (E.2.1.2 i).1)] [] (SBw E A cap f ml (nI n))
  have hg := gC_ge (cap := cap) h34
  have hg2 := (gC_le (q := n + (sLt i).length) hc).2
  refine j_aload_n 1 dJ5_append_cf1ce_0 rfl ?_
  refine j_ifnonnull 9 dJ5_append_cf1ce_1 (by decide) ?_
  refine j_aload_n 1 dJ5_append_cf1ce_9 rfl ?_
  refine j_cV [] dJ5_append_cf1ce_10 cv_J5_32 (rcv_sk hi) rfl rfl (Nat.le_of_ble_eq_true rfl) (show d - 1 + 1 ≤ d by omega) (Nat.zero_le _) (Nat.zero_le _) (kJ0_length hE (d - 1) (by omega) hi) ?_
  refine j_istore_n (lv' := [(2, .int (nI (sLt i).length)), (0, .ref (E.1.2.1 209)), (1, .ref (E.2.1.2 i).1)]) dJ5_append_cf1ce_13 (by decide) rfl ?_
  refine j_aload_n 1 dJ5_append_cf1ce_14 rfl ?_
  refine j_aload_n 1 dJ5_append_cf1ce_15 rfl ?_
  refine b_count dJ5_append_cf1ce_16 rfl ?_
  refine j_iload_n 0 dJ5_append_cf1ce_19 rfl ?_
  refine j_iadd dJ5_append_cf1ce_20 ?_
  refine j_intI (nI_add n (sLt i).length) ?_
  refine j_cU [.int (nI (n + (sLt i).length))] dJ5_append_cf1ce_21 rfl cu_100 rcv_sb rfl rfl (Nat.le_of_ble_eq_true rfl) (show d - 1 + 1 ≤ d by omega) (Nat.le_of_eq (by omega)) (Nat.le_of_eq (by omega)) (kJ5_ensure hE (d - 1) (by omega) hc h34 hf) ?_
  refine j_ex2 (fun A' f' hf' => ?_)
  refine j_aload_n 1 dJ5_append_cf1ce_24 rfl ?_
  refine j_aload_n 1 dJ5_append_cf1ce_25 rfl ?_
  refine b_count dJ5_append_cf1ce_26 rfl ?_
  refine j_aload_n 2 dJ5_append_cf1ce_29 rfl ?_
  refine j_cU [.int (nI n), .ref (E.2.1.2 i).1] dJ5_append_cf1ce_30 rfl cu_208 rcv_sb rfl rfl (Nat.le_of_ble_eq_true rfl) (show d - 1 + 1 ≤ d by omega) (Nat.le_of_eq (by omega)) (Nat.le_of_eq (by omega)) (kJ5_putString hE (d - 1) (by omega) hi hg hg2) ?_
  refine j_aload_n 1 dJ5_append_cf1ce_33 rfl ?_
  refine j_dup dJ5_append_cf1ce_34 rfl ?_
  refine b_count dJ5_append_cf1ce_35 rfl ?_
  refine j_iload_n 0 dJ5_append_cf1ce_38 rfl ?_
  refine j_iadd dJ5_append_cf1ce_39 ?_
  refine j_intI (nI_add n (sLt i).length) ?_
  refine b_putcount dJ5_append_cf1ce_40 rfl ?_
  refine j_aload_n 1 dJ5_append_cf1ce_43 rfl ?_
  refine j_areturn dJ5_append_cf1ce_44 rfl (Or.inl ⟨_, rfl⟩) (fun H hH => ⟨rfl, A', _, AP.trans hf'.2 hn ⟨sb_fitC (byI_fit _) hf'.1, fun j hj => ?_, fun j hj => ?_⟩, hH⟩) (Nat.le_of_eq (by omega)) (Nat.le_of_eq (by omega))
  · exact pk_cpy_out (by omega)
  · rw [pk_cpy_in (by omega) (by omega)]
    rw [show 0 + (n + j - n) = j by omega]
theorem kJ4_appendC {l : Launch} {E : ee} (hE : EOK E) (d : Nat) (hdd : 5 ≤ d) {A cap : Nat} {f : Nat → Int32} {ml : Int32} {n c : Nat} (hc : c16 cap) (hn : n ≤ cap) (h34 : n + 1 ≤ 34) (hf : sb_Fit f) (hcc : c < 256) : CJ l E yJ4_append_cf468 cJ4_append_cf468 2 (some (.object "java/lang/StringBuilder")) d (gK cap (n + 1)) (34 * gK cap (n + 1)) [.ref (E.1.2.1 209), .int (nI c)] (SBw E A cap f ml (nI n)) (fun v H => v = some (.ref (E.1.2.1 209)) ∧ ∃ (A' : Nat) (f' : Nat → Int32), AP f f' n [(c : Int)] ∧ SBw E A' (gC cap (n + 1)) f' ml (nI (n + 1)) H) := by
  refine CJ.ofWJ hE (by decide) (Nat.le_of_ble_eq_true rfl) ?_
  show WJ l E yJ4_append_cf468 cJ4_append_cf468 2 (some (.object "java/lang/StringBuilder")) d (gK cap (n + 1)) (34 * gK cap (n + 1)) (fun v H => v = some (.ref (E.1.2.1 209)) ∧ ∃ (A' : Nat) (f' : Nat → Int32), AP f f' n [(c : Int)] ∧ SBw E A' (gC cap (n + 1)) f' ml (nI (n + 1)) H) 0 0 0 [(0, .ref (E.1.2.1 209)), (1, .int (nI c))] [] (SBw E A cap f ml (nI n))
  refine j_aload_n 0 dJ4_append_cf468_0 rfl ?_
  refine j_iload_n 1 dJ4_append_cf468_1 rfl ?_
  refine j_cSU [.int (nI c)] dJ4_append_cf468_2 rfl cq_50 rcv_sb rfl rfl (Nat.le_of_ble_eq_true rfl) (show d - 1 + 1 ≤ d by omega) (Nat.le_of_eq (Nat.zero_add _)) (Nat.le_of_eq (Nat.zero_add _)) (kJ5_appendC hE (d - 1) (by omega) hc hn h34 hf hcc) ?_
  refine j_pop dJ4_append_cf468_5 rfl ?_
  refine j_aload_n 0 dJ4_append_cf468_6 rfl ?_
  exact j_areturn dJ4_append_cf468_7 rfl (Or.inl ⟨_, rfl⟩) (fun _ h => ⟨rfl, h⟩) (Nat.le_of_eq (Nat.zero_add _)) (Nat.le_of_eq (Nat.zero_add _))
theorem kJ4_appendS {l : Launch} {E : ee} (hE : EOK E) (d : Nat) (hdd : 5 ≤ d) {A cap : Nat} {f : Nat → Int32} {ml : Int32} {n i : Nat} (hc : c16 cap) (hn : n ≤ cap) (h34 : n + (sLt i).length ≤ 34) (hf : sb_Fit f) (hi : i < 4) : CJ l E yJ4_append_15ec4 cJ4_append_15ec4 2 (some (.object "java/lang/StringBuilder")) d (gK cap (n + (sLt i).length)) (34 * gK cap (n + (sLt i).length)) [.ref (E.1.2.1 209), .ref (E.2.1.2 i).1] (SBw E A cap f ml (nI n)) (fun v H => v = some (.ref (E.1.2.1 209)) ∧ ∃ (A' : Nat) (f' : Nat → Int32), AP f f' n (sLt i) ∧ SBw E A' (gC cap (n + (sLt i).length)) f' ml (nI (n + (sLt i).length)) H) := by
  refine CJ.ofWJ hE (by decide) (Nat.le_of_ble_eq_true rfl) ?_
  show WJ l E yJ4_append_15ec4 cJ4_append_15ec4 2 (some (.object "java/lang/StringBuilder")) d (gK cap (n + (sLt i).length)) (34 * gK cap (n + (sLt i).length)) (fun v H => v = some (.ref (E.1.2.1 209)) ∧ ∃ (A' : Nat) (f' : Nat → Int32), AP f f' n (sLt i) ∧ SBw E A' (gC cap (n + (sLt i).length)) f' ml (nI (n + (sLt i).length)) H) 0 0 0 [(0, .ref (E.1.2.1 209)), (1, .ref (E.2.1.2 i).1)] [] (SBw E A cap f ml (nI n))
  refine j_aload_n 0 dJ4_append_15ec4_0 rfl ?_
  refine j_aload_n 1 dJ4_append_15ec4_1 rfl ?_
  refine j_cSU [.ref (E.2.1.2 i).1] dJ4_append_15ec4_2 rfl cq_29 rcv_sb rfl rfl (Nat.le_of_ble_eq_true rfl) (show d - 1 + 1 ≤ d by omega) (Nat.le_of_eq (Nat.zero_add _)) (Nat.le_of_eq (Nat.zero_add _)) (kJ5_appendS hE (d - 1) (by omega) hc hn h34 hf hi) ?_
  refine j_pop dJ4_append_15ec4_5 rfl ?_
  refine j_aload_n 0 dJ4_append_15ec4_6 rfl ?_
  exact j_areturn dJ4_append_15ec4_7 rfl (Or.inl ⟨_, rfl⟩) (fun _ h => ⟨rfl, h⟩) (Nat.le_of_eq (Nat.zero_add _)) (Nat.le_of_eq (Nat.zero_add _))
theorem kJ4_appendI {l : Launch} {E : ee} (hE : EOK E) (d : Nat) (hdd : 5 ≤ d) {A cap : Nat} {f : Nat → Int32} {ml : Int32} {n z : Nat} (hc : c16 cap) (hn : n ≤ cap) (h34 : n + ndg z ≤ 34) (hf : sb_Fit f) (hz : z < 1000) : CJ l E yJ4_append_bf812 cJ4_append_bf812 2 (some (.object "java/lang/StringBuilder")) d (gK cap (n + ndg z)) (34 * gK cap (n + ndg z)) [.ref (E.1.2.1 209), .int (nI z)] (SBw E A cap f ml (nI n)) (fun v H => v = some (.ref (E.1.2.1 209)) ∧ ∃ (A' : Nat) (f' : Nat → Int32), AP f f' n (digs 3 z) ∧ SBw E A' (gC cap (n + ndg z)) f' ml (nI (n + ndg z)) H) := by
  refine CJ.ofWJ hE (by decide) (Nat.le_of_ble_eq_true rfl) ?_
  show WJ l E yJ4_append_bf812 cJ4_append_bf812 2 (some (.object "java/lang/StringBuilder")) d (gK cap (n + ndg z)) (34 * gK cap (n + ndg z)) (fun v H => v = some (.ref (E.1.2.1 209)) ∧ ∃ (A' : Nat) (f' : Nat → Int32), AP f f' n (digs 3 z) ∧ SBw E A' (gC cap (n + ndg z)) f' ml (nI (n + ndg z)) H) 0 0 0 [(0, .ref (E.1.2.1 209)), (1, .int (nI z))] [] (SBw E A cap f ml (nI n))
  refine j_aload_n 0 dJ4_append_bf812_0 rfl ?_
  refine j_iload_n 1 dJ4_append_bf812_1 rfl ?_
  refine j_cSU [.int (nI z)] dJ4_append_bf812_2 rfl cq_53 rcv_sb rfl rfl (Nat.le_of_ble_eq_true rfl) (show d - 1 + 1 ≤ d by omega) (Nat.le_of_eq (Nat.zero_add _)) (Nat.le_of_eq (Nat.zero_add _)) (kJ5_appendI hE (d - 1) (by omega) hc hn h34 hf hz) ?_
  refine j_pop dJ4_append_bf812_5 rfl ?_
  refine j_aload_n 0 dJ4_append_bf812_6 rfl ?_
  exact j_areturn dJ4_append_bf812_7 rfl (Or.inl ⟨_, rfl⟩) (fun _ h => ⟨rfl, h⟩) (Nat.le_of_eq (Nat.zero_add _)) (Nat.le_of_eq (Nat.zero_add _))
