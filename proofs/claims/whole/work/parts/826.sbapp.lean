/-! append: a letter, a constant text, a number -/
/-- f' holds what f held, and the letters L from place n on -/
def AP (f f' : Nat → Int32) (n : Nat) (L : List Int) : Prop := sb_Fit f' ∧ (∀ j, j < n → f' j = f j) ∧ ∀ j, j < L.length → f' (n + j) = byI (L.getD j 0)
theorem j_iincL {l : Launch} {E : ee} {y : MethodName} {cc : ByteArray} {nL : Nat} {ret : Option FieldType} {d mc ms : Nat} {Q : Option Value → Heap → Prop} {k n pc : Nat} {lv lv' : List (Nat × Value)} {st : List Value} {I : Heap → Prop} {z : Nat} {w : Int} {x w9 : Int32} (q : Nat) (hd : decode cc pc = .ok (.iinc z w, 3)) (hk : lv[q]? = some (z, .int x)) (hxv : x + Int32.ofInt w = w9) (hn : z < nL) (hl : (z, Value.int w9) :: lv.filter (fun q => !(q.1 == z) && !(q.1 + 1 == z && q.2.category == 2)) = lv') (kk : WJ l E y cc nL ret d mc ms Q k n (pc + 3) lv' st I) : WJ l E y cc nL ret d mc ms Q k n pc lv st I :=
  fun p e s m args below meth c H locs ls A Rp S L => lv_iinc A.1 A.2.1 hd L hk hxv hn hl (fun ls1 hl1 => kk p e s m args below meth c H locs ls1 A Rp S hl1)
theorem dec1 {p : Nat} (h : 0 < p) : nI p + Int32.ofInt (-1) = nI (p - 1) := by
  rw [show Int32.ofInt (-1) = (-1 : Int32) by decide]
  exact sb_m1 h
theorem neg_le {z c : Nat} {x : Int32} (hx : x = -nI c) (hz : z < 2 ^ 31) (hc : c < 2 ^ 31) : -nI z ≤ x ↔ c ≤ z := by
  rw [hx]
  exact sb_nle hz hc
theorem neg_ge {z c : Nat} {x : Int32} (hx : x = -nI c) (hz : z < 2 ^ 31) (hc : c < 2 ^ 31) : x ≤ -nI z ↔ z ≤ c := by
  rw [hx]
  exact sb_nle hc hz
theorem neg_gt {z c : Nat} {x : Int32} (hx : x = -nI c) (hz : z < 2 ^ 31) (hc : c < 2 ^ 31) : x < -nI z ↔ z < c := by
  rw [hx]
  exact sb_nlt hc hz
theorem byI_fit (L : List Int) : sb_Fit (fun j => byI (L.getD j 0)) := fun _ => sb_fitB _
theorem kJ1_canEncode {l : Launch} {E : ee} (hE : EOK E) (d : Nat) {I : Heap → Prop} {c : Nat} (hc : c < 256) : CJ l E yJ1_canEncode_fc78d cJ1_canEncode_fc78d 1 (some .boolean) d 0 0 [.int (nI c)] (I) (fun v H => v = some (.int 1) ∧ I H) := by
  refine CJ.ofWJ hE (by decide) (Nat.le_of_ble_eq_true rfl) ?_
  show WJ l E yJ1_canEncode_fc78d cJ1_canEncode_fc78d 1 (some .boolean) d 0 0 (fun v H => v = some (.int 1) ∧ I H) 0 0 0 [(0, .int (nI c))] [] (I)
  refine j_iload_n 0 dJ1_canEncode_fc78d_0 rfl ?_
  refine j_sipush (v := (255 : Int32)) dJ1_canEncode_fc78d_1 (by decide) ?_
  refine j_icmp_gt 11 dJ1_canEncode_fc78d_4 (by decide) (fun w => absurd w (show ¬ nI 255 < nI c from nI_nlt (by omega) (by decide))) (fun _ => ?_)
  refine j_iconst (v := (1 : Int32)) dJ1_canEncode_fc78d_7 (by decide) ?_
  refine j_goto 12 dJ1_canEncode_fc78d_8 (by decide) ?_
  exact j_zreturn dJ1_canEncode_fc78d_12 rfl rfl (fun _ h => ⟨rfl, h⟩) (Nat.le_refl _) (Nat.le_refl _)
theorem kJ5_appendC {l : Launch} {E : ee} (hE : EOK E) (d : Nat) (hdd : 4 ≤ d) {A cap : Nat} {f : Nat → Int32} {ml : Int32} {n c : Nat} (hc : c16 cap) (hn : n ≤ cap) (h34 : n + 1 ≤ 34) (hf : sb_Fit f) (hcc : c < 256) : CJ l E yJ5_append_3fe6f cJ5_append_3fe6f 2 (some (.object "java/lang/AbstractStringBuilder")) d (gK cap (n + 1)) (34 * gK cap (n + 1)) [.ref (E.1.2.1 209), .int (nI c)] (SBw E A cap f ml (nI n)) (fun v H => v = some (.ref (E.1.2.1 209)) ∧ ∃ (A' : Nat) (f' : Nat → Int32), AP f f' n [(c : Int)] ∧ SBw E A' (gC cap (n + 1)) f' ml (nI (n + 1)) H) := by
  refine CJ.ofWJ hE (by decide) (Nat.le_of_ble_eq_true rfl) ?_
  show WJ l E yJ5_append_3fe6f cJ5_append_3fe6f 2 (some (.object "java/lang/AbstractStringBuilder")) d (gK cap (n + 1)) (34 * gK cap (n + 1)) (fun v H => v = some (.ref (E.1.2.1 209)) ∧ ∃ (A' : Nat) (f' : Nat → Int32), AP f f' n [(c : Int)] ∧ SBw E A' (gC cap (n + 1)) f' ml (nI (n + 1)) H) 0 0 0 [(0, .ref (E.1.2.1 209)), (1, .int (nI c))] [] (SBw E A cap f ml (nI n))
  have hg := gC_ge (cap := cap) h34
  have hg2 := (gC_le (q := n + 1) hc).2
  refine j_aload_n 0 dJ5_append_3fe6f_0 rfl ?_
  refine j_aload_n 0 dJ5_append_3fe6f_1 rfl ?_
  refine b_count dJ5_append_3fe6f_2 rfl ?_
  refine j_iconst (v := (1 : Int32)) dJ5_append_3fe6f_5 (by decide) ?_
  refine j_iadd dJ5_append_3fe6f_6 ?_
  refine j_intI (nI_1 n) ?_
  refine j_cU [.int (nI (n + 1))] dJ5_append_3fe6f_7 rfl cu_100 rcv_sb rfl rfl (Nat.le_of_ble_eq_true rfl) (show d - 1 + 1 ≤ d by omega) (Nat.le_of_eq (Nat.zero_add _)) (Nat.le_of_eq (Nat.zero_add _)) (kJ5_ensure hE (d - 1) (by omega) hc h34 hf) ?_
  refine j_ex2 (fun A' f' hf' => ?_)
  refine j_aload_n 0 dJ5_append_3fe6f_10 rfl ?_
  refine j_cU [] dJ5_append_3fe6f_11 rfl cu_83 rcv_sb rfl rfl (Nat.le_of_ble_eq_true rfl) (show d - 1 + 1 ≤ d by omega) (Nat.le_of_eq (by omega)) (Nat.le_of_eq (by omega)) (kJ5_isLatin1 hE (d - 1)) ?_
  refine j_if_eq 45 dJ5_append_3fe6f_14 (by decide) (fun w => absurd w (by decide)) (fun _ => ?_)
  refine j_iload_n 1 dJ5_append_3fe6f_17 rfl ?_
  refine j_cS [.int (nI c)] dJ5_append_3fe6f_18 cs_J5_191 rfl rfl (Nat.le_of_ble_eq_true rfl) (show d - 1 + 1 ≤ d by omega) (Nat.le_of_eq (by omega)) (Nat.le_of_eq (by omega)) (kJ1_canEncode hE (d - 1) hcc) ?_
  refine j_if_eq 45 dJ5_append_3fe6f_21 (by decide) (fun w => absurd w (by decide)) (fun _ => ?_)
  refine j_aload_n 0 dJ5_append_3fe6f_24 rfl ?_
  refine b_value dJ5_append_3fe6f_25 rfl ?_
  refine j_aload_n 0 dJ5_append_3fe6f_28 rfl ?_
  refine j_dup dJ5_append_3fe6f_29 rfl ?_
  refine b_count dJ5_append_3fe6f_30 rfl ?_
  refine j_dup_x1 dJ5_append_3fe6f_33 rfl rfl ?_
  refine j_iconst (v := (1 : Int32)) dJ5_append_3fe6f_34 (by decide) ?_
  refine j_iadd dJ5_append_3fe6f_35 ?_
  refine j_intI (nI_1 n) ?_
  refine b_putcount dJ5_append_3fe6f_36 rfl ?_
  refine j_iload_n 1 dJ5_append_3fe6f_39 rfl ?_
  refine j_i2b dJ5_append_3fe6f_40 ?_
  refine b_bast dJ5_append_3fe6f_41 (vp_in_nI (by omega) (by omega)) ?_
  refine j_goto 75 dJ5_append_3fe6f_42 (by decide) ?_
  refine j_aload_n 0 dJ5_append_3fe6f_75 rfl ?_
  refine j_areturn dJ5_append_3fe6f_76 rfl (Or.inl ⟨_, rfl⟩) (fun H hH => ⟨rfl, A', upd f' n (sb_b c), ⟨sb_fitU hf'.1 (sb_fitB c), fun j hj => ?_, fun j hj => ?_⟩, ?_⟩) (Nat.le_of_eq (by omega)) (Nat.le_of_eq (by omega))
  · rw [pk_un (by omega)]
    exact hf'.2 j (by omega)
  · have h0 : j = 0 := by simpa using hj
    subst h0
    show upd f' n (sb_b c) n = _
    rw [pk_us]
    rfl
  · rw [nI_clamp (by omega), pk_vb] at hH
    exact hH
def ndg (z : Nat) : Nat := if z ≤ 9 then 1 else if z ≤ 99 then 2 else 3
theorem kJ6_stringSize {l : Launch} {E : ee} (hE : EOK E) (d : Nat) {I : Heap → Prop} {z : Nat} (hz : z < 1000) : CJ l E yJ6_stringSize_0f7a4 cJ6_stringSize_0f7a4 4 (some .int) d 0 0 [.int (nI z)] (I) (fun v H => v = some (.int (nI (ndg z))) ∧ I H) := by
  refine CJ.ofWJ hE (by decide) (Nat.le_of_ble_eq_true rfl) ?_
  show WJ l E yJ6_stringSize_0f7a4 cJ6_stringSize_0f7a4 4 (some .int) d 0 0 (fun v H => v = some (.int (nI (ndg z))) ∧ I H) 0 0 0 [(0, .int (nI z))] [] (I)
  by_cases h1 : z ≤ 9
  · refine j_iconst (v := (1 : Int32)) dJ6_stringSize_0f7a4_0 (by decide) ?_
    refine j_istore_n (lv' := [(1, .int (1 : Int32)), (0, .int (nI z))]) dJ6_stringSize_0f7a4_1 (by decide) rfl ?_
    refine j_iload_n 1 dJ6_stringSize_0f7a4_2 rfl ?_
    refine j_if_lt 11 dJ6_stringSize_0f7a4_3 (by decide) (fun w => absurd w (nI_pos (by omega))) (fun _ => ?_)
    refine j_iconst (v := (0 : Int32)) dJ6_stringSize_0f7a4_6 (by decide) ?_
    refine j_istore_n (lv' := [(1, .int (0 : Int32)), (0, .int (nI z))]) dJ6_stringSize_0f7a4_7 (by decide) rfl ?_
    refine j_iload_n 1 dJ6_stringSize_0f7a4_8 rfl ?_
    refine j_ineg dJ6_stringSize_0f7a4_9 ?_
    refine j_istore_n (lv' := [(0, .int (-(nI z))), (1, .int (0 : Int32))]) dJ6_stringSize_0f7a4_10 (by decide) rfl ?_
    refine j_bipush (v := (-10 : Int32)) dJ6_stringSize_0f7a4_11 (by decide) ?_
    refine j_istore_n (lv' := [(2, .int (-10 : Int32)), (0, .int (-(nI z))), (1, .int (0 : Int32))]) dJ6_stringSize_0f7a4_13 (by decide) rfl ?_
    refine j_iconst (v := (1 : Int32)) dJ6_stringSize_0f7a4_14 (by decide) ?_
    refine j_istore_n (lv' := [(3, .int (1 : Int32)), (2, .int (-10 : Int32)), (0, .int (-(nI z))), (1, .int (0 : Int32))]) dJ6_stringSize_0f7a4_15 (by decide) rfl ?_
    refine j_iload_n 0 dJ6_stringSize_0f7a4_16 rfl ?_
    refine j_bipush (v := (10 : Int32)) dJ6_stringSize_0f7a4_17 (by decide) ?_
    refine j_icmp_ge 42 dJ6_stringSize_0f7a4_19 (by decide) (fun w => absurd w (by decide)) (fun _ => ?_)
    refine j_iload_n 2 dJ6_stringSize_0f7a4_22 rfl ?_
    refine j_iload_n 1 dJ6_stringSize_0f7a4_23 rfl ?_
    refine j_icmp_le 31 dJ6_stringSize_0f7a4_24 (by decide) (fun w => absurd w (fun w => absurd ((neg_le (c := 10) (by decide) (by omega) (by decide)).mp w) (by omega))) (fun _ => ?_)
    refine j_iload_n 0 dJ6_stringSize_0f7a4_27 rfl ?_
    refine j_iload_n 3 dJ6_stringSize_0f7a4_28 rfl ?_
    refine j_iadd dJ6_stringSize_0f7a4_29 ?_
    refine j_intI (show (1 : Int32) + 0 = nI (ndg z) by unfold ndg; rw [if_pos h1]; decide) ?_
    exact j_ireturn dJ6_stringSize_0f7a4_30 rfl (fun _ h => ⟨rfl, h⟩) (Nat.le_refl _) (Nat.le_refl _)
  by_cases h2 : z ≤ 99
  · refine j_iconst (v := (1 : Int32)) dJ6_stringSize_0f7a4_0 (by decide) ?_
    refine j_istore_n (lv' := [(1, .int (1 : Int32)), (0, .int (nI z))]) dJ6_stringSize_0f7a4_1 (by decide) rfl ?_
    refine j_iload_n 1 dJ6_stringSize_0f7a4_2 rfl ?_
    refine j_if_lt 11 dJ6_stringSize_0f7a4_3 (by decide) (fun w => absurd w (nI_pos (by omega))) (fun _ => ?_)
    refine j_iconst (v := (0 : Int32)) dJ6_stringSize_0f7a4_6 (by decide) ?_
    refine j_istore_n (lv' := [(1, .int (0 : Int32)), (0, .int (nI z))]) dJ6_stringSize_0f7a4_7 (by decide) rfl ?_
    refine j_iload_n 1 dJ6_stringSize_0f7a4_8 rfl ?_
    refine j_ineg dJ6_stringSize_0f7a4_9 ?_
    refine j_istore_n (lv' := [(0, .int (-(nI z))), (1, .int (0 : Int32))]) dJ6_stringSize_0f7a4_10 (by decide) rfl ?_
    refine j_bipush (v := (-10 : Int32)) dJ6_stringSize_0f7a4_11 (by decide) ?_
    refine j_istore_n (lv' := [(2, .int (-10 : Int32)), (0, .int (-(nI z))), (1, .int (0 : Int32))]) dJ6_stringSize_0f7a4_13 (by decide) rfl ?_
    refine j_iconst (v := (1 : Int32)) dJ6_stringSize_0f7a4_14 (by decide) ?_
    refine j_istore_n (lv' := [(3, .int (1 : Int32)), (2, .int (-10 : Int32)), (0, .int (-(nI z))), (1, .int (0 : Int32))]) dJ6_stringSize_0f7a4_15 (by decide) rfl ?_
    refine j_iload_n 0 dJ6_stringSize_0f7a4_16 rfl ?_
    refine j_bipush (v := (10 : Int32)) dJ6_stringSize_0f7a4_17 (by decide) ?_
    refine j_icmp_ge 42 dJ6_stringSize_0f7a4_19 (by decide) (fun w => absurd w (by decide)) (fun _ => ?_)
    refine j_iload_n 2 dJ6_stringSize_0f7a4_22 rfl ?_
    refine j_iload_n 1 dJ6_stringSize_0f7a4_23 rfl ?_
    refine j_icmp_le 31 dJ6_stringSize_0f7a4_24 (by decide) (fun _ => ?_) (fun w => absurd ((neg_le (c := 10) (by decide) (by omega) (by decide)).mpr (by omega)) w)
    refine j_bipush (v := (10 : Int32)) dJ6_stringSize_0f7a4_31 (by decide) ?_
    refine j_iload_n 1 dJ6_stringSize_0f7a4_33 rfl ?_
    refine j_imul dJ6_stringSize_0f7a4_34 ?_
    refine j_intI (show (10 : Int32) * (-10 : Int32) = (-100 : Int32) by decide) ?_
    refine j_istore_n (lv' := [(2, .int (-100 : Int32)), (3, .int (1 : Int32)), (0, .int (-(nI z))), (1, .int (0 : Int32))]) dJ6_stringSize_0f7a4_35 (by decide) rfl ?_
    refine j_iincL (lv' := [(3, .int (2 : Int32)), (2, .int (-100 : Int32)), (0, .int (-(nI z))), (1, .int (0 : Int32))]) 1 dJ6_stringSize_0f7a4_36 rfl (by decide) (by decide) rfl ?_
    refine j_goto 16 dJ6_stringSize_0f7a4_39 (by decide) ?_
    refine j_iload_n 0 dJ6_stringSize_0f7a4_16 rfl ?_
    refine j_bipush (v := (10 : Int32)) dJ6_stringSize_0f7a4_17 (by decide) ?_
    refine j_icmp_ge 42 dJ6_stringSize_0f7a4_19 (by decide) (fun w => absurd w (by decide)) (fun _ => ?_)
    refine j_iload_n 2 dJ6_stringSize_0f7a4_22 rfl ?_
    refine j_iload_n 1 dJ6_stringSize_0f7a4_23 rfl ?_
    refine j_icmp_le 31 dJ6_stringSize_0f7a4_24 (by decide) (fun w => absurd w (fun w => absurd ((neg_le (c := 100) (by decide) (by omega) (by decide)).mp w) (by omega))) (fun _ => ?_)
    refine j_iload_n 0 dJ6_stringSize_0f7a4_27 rfl ?_
    refine j_iload_n 3 dJ6_stringSize_0f7a4_28 rfl ?_
    refine j_iadd dJ6_stringSize_0f7a4_29 ?_
    refine j_intI (show (2 : Int32) + 0 = nI (ndg z) by unfold ndg; rw [if_neg h1, if_pos h2]; decide) ?_
    exact j_ireturn dJ6_stringSize_0f7a4_30 rfl (fun _ h => ⟨rfl, h⟩) (Nat.le_refl _) (Nat.le_refl _)
  refine j_iconst (v := (1 : Int32)) dJ6_stringSize_0f7a4_0 (by decide) ?_
  refine j_istore_n (lv' := [(1, .int (1 : Int32)), (0, .int (nI z))]) dJ6_stringSize_0f7a4_1 (by decide) rfl ?_
  refine j_iload_n 1 dJ6_stringSize_0f7a4_2 rfl ?_
  refine j_if_lt 11 dJ6_stringSize_0f7a4_3 (by decide) (fun w => absurd w (nI_pos (by omega))) (fun _ => ?_)
  refine j_iconst (v := (0 : Int32)) dJ6_stringSize_0f7a4_6 (by decide) ?_
  refine j_istore_n (lv' := [(1, .int (0 : Int32)), (0, .int (nI z))]) dJ6_stringSize_0f7a4_7 (by decide) rfl ?_
  refine j_iload_n 1 dJ6_stringSize_0f7a4_8 rfl ?_
  refine j_ineg dJ6_stringSize_0f7a4_9 ?_
  refine j_istore_n (lv' := [(0, .int (-(nI z))), (1, .int (0 : Int32))]) dJ6_stringSize_0f7a4_10 (by decide) rfl ?_
  refine j_bipush (v := (-10 : Int32)) dJ6_stringSize_0f7a4_11 (by decide) ?_
  refine j_istore_n (lv' := [(2, .int (-10 : Int32)), (0, .int (-(nI z))), (1, .int (0 : Int32))]) dJ6_stringSize_0f7a4_13 (by decide) rfl ?_
  refine j_iconst (v := (1 : Int32)) dJ6_stringSize_0f7a4_14 (by decide) ?_
  refine j_istore_n (lv' := [(3, .int (1 : Int32)), (2, .int (-10 : Int32)), (0, .int (-(nI z))), (1, .int (0 : Int32))]) dJ6_stringSize_0f7a4_15 (by decide) rfl ?_
  refine j_iload_n 0 dJ6_stringSize_0f7a4_16 rfl ?_
  refine j_bipush (v := (10 : Int32)) dJ6_stringSize_0f7a4_17 (by decide) ?_
  refine j_icmp_ge 42 dJ6_stringSize_0f7a4_19 (by decide) (fun w => absurd w (by decide)) (fun _ => ?_)
  refine j_iload_n 2 dJ6_stringSize_0f7a4_22 rfl ?_
  refine j_iload_n 1 dJ6_stringSize_0f7a4_23 rfl ?_
  refine j_icmp_le 31 dJ6_stringSize_0f7a4_24 (by decide) (fun _ => ?_) (fun w => absurd ((neg_le (c := 10) (by decide) (by omega) (by decide)).mpr (by omega)) w)
  refine j_bipush (v := (10 : Int32)) dJ6_stringSize_0f7a4_31 (by decide) ?_
  refine j_iload_n 1 dJ6_stringSize_0f7a4_33 rfl ?_
  refine j_imul dJ6_stringSize_0f7a4_34 ?_
  refine j_intI (show (10 : Int32) * (-10 : Int32) = (-100 : Int32) by decide) ?_
  refine j_istore_n (lv' := [(2, .int (-100 : Int32)), (3, .int (1 : Int32)), (0, .int (-(nI z))), (1, .int (0 : Int32))]) dJ6_stringSize_0f7a4_35 (by decide) rfl ?_
  refine j_iincL (lv' := [(3, .int (2 : Int32)), (2, .int (-100 : Int32)), (0, .int (-(nI z))), (1, .int (0 : Int32))]) 1 dJ6_stringSize_0f7a4_36 rfl (by decide) (by decide) rfl ?_
  refine j_goto 16 dJ6_stringSize_0f7a4_39 (by decide) ?_
  refine j_iload_n 0 dJ6_stringSize_0f7a4_16 rfl ?_
  refine j_bipush (v := (10 : Int32)) dJ6_stringSize_0f7a4_17 (by decide) ?_
  refine j_icmp_ge 42 dJ6_stringSize_0f7a4_19 (by decide) (fun w => absurd w (by decide)) (fun _ => ?_)
  refine j_iload_n 2 dJ6_stringSize_0f7a4_22 rfl ?_
  refine j_iload_n 1 dJ6_stringSize_0f7a4_23 rfl ?_
  refine j_icmp_le 31 dJ6_stringSize_0f7a4_24 (by decide) (fun _ => ?_) (fun w => absurd ((neg_le (c := 100) (by decide) (by omega) (by decide)).mpr (by omega)) w)
  refine j_bipush (v := (10 : Int32)) dJ6_stringSize_0f7a4_31 (by decide) ?_
  refine j_iload_n 1 dJ6_stringSize_0f7a4_33 rfl ?_
  refine j_imul dJ6_stringSize_0f7a4_34 ?_
  refine j_intI (show (10 : Int32) * (-100 : Int32) = (-1000 : Int32) by decide) ?_
  refine j_istore_n (lv' := [(2, .int (-1000 : Int32)), (3, .int (2 : Int32)), (0, .int (-(nI z))), (1, .int (0 : Int32))]) dJ6_stringSize_0f7a4_35 (by decide) rfl ?_
  refine j_iincL (lv' := [(3, .int (3 : Int32)), (2, .int (-1000 : Int32)), (0, .int (-(nI z))), (1, .int (0 : Int32))]) 1 dJ6_stringSize_0f7a4_36 rfl (by decide) (by decide) rfl ?_
  refine j_goto 16 dJ6_stringSize_0f7a4_39 (by decide) ?_
  refine j_iload_n 0 dJ6_stringSize_0f7a4_16 rfl ?_
  refine j_bipush (v := (10 : Int32)) dJ6_stringSize_0f7a4_17 (by decide) ?_
  refine j_icmp_ge 42 dJ6_stringSize_0f7a4_19 (by decide) (fun w => absurd w (by decide)) (fun _ => ?_)
  refine j_iload_n 2 dJ6_stringSize_0f7a4_22 rfl ?_
  refine j_iload_n 1 dJ6_stringSize_0f7a4_23 rfl ?_
  refine j_icmp_le 31 dJ6_stringSize_0f7a4_24 (by decide) (fun w => absurd w (fun w => absurd ((neg_le (c := 1000) (by decide) (by omega) (by decide)).mp w) (by omega))) (fun _ => ?_)
  refine j_iload_n 0 dJ6_stringSize_0f7a4_27 rfl ?_
  refine j_iload_n 3 dJ6_stringSize_0f7a4_28 rfl ?_
  refine j_iadd dJ6_stringSize_0f7a4_29 ?_
  refine j_intI (show (3 : Int32) + 0 = nI (ndg z) by unfold ndg; rw [if_neg h1, if_neg h2]; decide) ?_
  exact j_ireturn dJ6_stringSize_0f7a4_30 rfl (fun _ h => ⟨rfl, h⟩) (Nat.le_refl _) (Nat.le_refl _)
def dgt (x : Nat) : Int32 := vp_nar .byte (nI (48 + x))
def gcT (f : Nat → Int32) (p w : Nat) : Nat → Int32 := if w ≤ 9 then upd f (p - 1) (dgt (w % 10)) else upd (upd f (p - 1) (dgt (w % 10))) (p - 2) (dgt (w / 10))
def gcA (f : Nat → Int32) (e z : Nat) : Nat → Int32 := if z ≤ 99 then gcT f e z else gcT (upd (upd f (e - 1) (dgt (z % 100 % 10))) (e - 2) (dgt (z % 100 / 10))) (e - 2) (z / 100)
theorem neg2 (x : Int32) : -(-x) = x := by simp
theorem gc_tail {l : Launch} {E : ee} {d : Nat} {Q : Option Value → Heap → Prop} {A cap : Nat} {f : Nat → Int32} {ml cn : Int32} {p w : Nat} (hw : w ≤ 99) (hp : ndg w ≤ p) (hpc : p ≤ cap) (hc : cap ≤ 34) (hQ : ∀ H, SBw E A cap (gcT f p w) ml cn H → Q (some (.int (nI (p - ndg w)))) H) : WJ l E yJ6_getChars_ba4f3 cJ6_getChars_ba4f3 7 (some .int) d 0 0 Q 0 0 72 [(0, .int (-nI w)), (2, .ref A), (5, .int (nI p)), (6, .int 0)] [] (SBw E A cap f ml cn) := by
  by_cases h1 : w ≤ 9
  · have hp1 : 1 ≤ p := by unfold ndg at hp; rw [if_pos h1] at hp; exact hp
    refine j_aload_n 1 dJ6_getChars_ba4f3_72 rfl ?_
    refine j_iincL (lv' := [(5, .int (nI (p - 1))), (0, .int (-nI w)), (2, .ref A), (6, .int 0)]) 2 dJ6_getChars_ba4f3_73 rfl (dec1 (by omega)) (by decide) rfl ?_
    refine j_iload 0 dJ6_getChars_ba4f3_76 rfl ?_
    refine j_gets dJ6_getChars_ba4f3_78 fl_J6_83 (fun s h => h.2.2.2.2.1.2.1) ?_
    refine j_iload_n 1 dJ6_getChars_ba4f3_81 rfl ?_
    refine j_ineg dJ6_getChars_ba4f3_82 ?_
    refine j_intI (neg2 _) ?_
    refine j_tb (N := 100) (v := .int (nI (48 + w % 10))) dJ6_getChars_ba4f3_83 (fun s h => h.2.2.2.2.1.2.2.1) (vp_in_nI (by omega) (by decide)) (by rw [nI_clamp (by omega)]) ?_
    refine b_bast dJ6_getChars_ba4f3_84 (vp_in_nI (by omega) (by omega)) ?_
    rw [nI_clamp (n := p - 1) (by omega)]
    refine j_iload_n 1 dJ6_getChars_ba4f3_85 rfl ?_
    refine j_bipush (v := (-9 : Int32)) dJ6_getChars_ba4f3_86 (by decide) ?_
    refine j_icmp_ge 104 dJ6_getChars_ba4f3_88 (by decide) (fun _ => ?_) (fun w => absurd ((neg_ge (c := 9) (by decide) (by omega) (by decide)).mpr h1) w)
    refine j_iload 3 dJ6_getChars_ba4f3_104 rfl ?_
    refine j_if_eq 118 dJ6_getChars_ba4f3_106 (by decide) (fun _ => ?_) (fun w => absurd (rfl) w)
    refine j_iload 0 dJ6_getChars_ba4f3_118 rfl ?_
    refine j_intI (show nI (p - 1) = nI (p - ndg w) by unfold ndg; rw [if_pos h1]) ?_
    exact j_ireturn dJ6_getChars_ba4f3_120 rfl (fun H h => hQ H (by unfold gcT; rw [if_pos h1]; exact h)) (Nat.le_refl _) (Nat.le_refl _)
  have hp2 : 2 ≤ p := by unfold ndg at hp; rw [if_neg h1, if_pos hw] at hp; exact hp
  refine j_aload_n 1 dJ6_getChars_ba4f3_72 rfl ?_
  refine j_iincL (lv' := [(5, .int (nI (p - 1))), (0, .int (-nI w)), (2, .ref A), (6, .int 0)]) 2 dJ6_getChars_ba4f3_73 rfl (dec1 (by omega)) (by decide) rfl ?_
  refine j_iload 0 dJ6_getChars_ba4f3_76 rfl ?_
  refine j_gets dJ6_getChars_ba4f3_78 fl_J6_83 (fun s h => h.2.2.2.2.1.2.1) ?_
  refine j_iload_n 1 dJ6_getChars_ba4f3_81 rfl ?_
  refine j_ineg dJ6_getChars_ba4f3_82 ?_
  refine j_intI (neg2 _) ?_
  refine j_tb (N := 100) (v := .int (nI (48 + w % 10))) dJ6_getChars_ba4f3_83 (fun s h => h.2.2.2.2.1.2.2.1) (vp_in_nI (by omega) (by decide)) (by rw [nI_clamp (by omega)]) ?_
  refine b_bast dJ6_getChars_ba4f3_84 (vp_in_nI (by omega) (by omega)) ?_
  rw [nI_clamp (n := p - 1) (by omega)]
  refine j_iload_n 1 dJ6_getChars_ba4f3_85 rfl ?_
  refine j_bipush (v := (-9 : Int32)) dJ6_getChars_ba4f3_86 (by decide) ?_
  refine j_icmp_ge 104 dJ6_getChars_ba4f3_88 (by decide) (fun w => absurd w (fun w9 => absurd ((neg_ge (c := 9) (by decide) (by omega) (by decide)).mp w9) h1)) (fun _ => ?_)
  refine j_aload_n 2 dJ6_getChars_ba4f3_91 rfl ?_
  refine j_iincL (lv' := [(5, .int (nI (p - 1 - 1))), (0, .int (-nI w)), (2, .ref A), (6, .int 0)]) 0 dJ6_getChars_ba4f3_92 rfl (dec1 (by omega)) (by decide) rfl ?_
  refine j_iload 0 dJ6_getChars_ba4f3_95 rfl ?_
  refine j_gets dJ6_getChars_ba4f3_97 fl_J6_87 (fun s h => h.2.2.2.2.1.2.2.2.1) ?_
  refine j_iload_n 1 dJ6_getChars_ba4f3_100 rfl ?_
  refine j_ineg dJ6_getChars_ba4f3_101 ?_
  refine j_intI (neg2 _) ?_
  refine j_tb (N := 100) (v := .int (nI (48 + w / 10))) dJ6_getChars_ba4f3_102 (fun s h => h.2.2.2.2.1.2.2.2.2.1) (vp_in_nI (by omega) (by decide)) (by rw [nI_clamp (by omega)]) ?_
  refine b_bast dJ6_getChars_ba4f3_103 (vp_in_nI (by omega) (by omega)) ?_
  rw [nI_clamp (n := p - 1 - 1) (by omega)]
  refine j_iload 3 dJ6_getChars_ba4f3_104 rfl ?_
  refine j_if_eq 118 dJ6_getChars_ba4f3_106 (by decide) (fun _ => ?_) (fun w => absurd (rfl) w)
  refine j_iload 0 dJ6_getChars_ba4f3_118 rfl ?_
  refine j_intI (show nI (p - 1 - 1) = nI (p - ndg w) by unfold ndg; rw [if_neg h1, if_pos hw, Nat.sub_sub]) ?_
  exact j_ireturn dJ6_getChars_ba4f3_120 rfl (fun H h => hQ H (by unfold gcT; rw [if_neg h1]; exact h)) (Nat.le_refl _) (Nat.le_refl _)
theorem kJ6_getChars {l : Launch} {E : ee} (hE : EOK E) (d : Nat) {A cap : Nat} {f : Nat → Int32} {ml cn : Int32} {z e : Nat} (hz : z < 1000) (he : ndg z ≤ e) (hec : e ≤ cap) (hc : cap ≤ 34) : CJ l E yJ6_getChars_ba4f3 cJ6_getChars_ba4f3 7 (some .int) d 0 0 [.int (nI z), .int (nI e), .ref A] (SBw E A cap f ml cn) (fun v H => v = some (.int (nI (e - ndg z))) ∧ SBw E A cap (gcA f e z) ml cn H) := by
  refine CJ.ofWJ hE (by decide) (Nat.le_of_ble_eq_true rfl) ?_
  show WJ l E yJ6_getChars_ba4f3 cJ6_getChars_ba4f3 7 (some .int) d 0 0 (fun v H => v = some (.int (nI (e - ndg z))) ∧ SBw E A cap (gcA f e z) ml cn H) 0 0 0 [(0, .int (nI z)), (1, .int (nI e)), (2, .ref A)] [] (SBw E A cap f ml cn)
  refine j_iload_n 1 dJ6_getChars_ba4f3_0 rfl ?_
  refine j_istore (lv' := [(5, .int (nI e)), (0, .int (nI z)), (1, .int (nI e)), (2, .ref A)]) dJ6_getChars_ba4f3_1 (by decide) rfl ?_
  refine j_iload_n 1 dJ6_getChars_ba4f3_3 rfl ?_
  refine j_if_ge 11 dJ6_getChars_ba4f3_4 (by decide) (fun _ => ?_) (fun w => absurd (nI_pos' (by omega)) w)
  refine j_iconst (v := (0 : Int32)) dJ6_getChars_ba4f3_11 (by decide) ?_
  refine j_istore (lv' := [(6, .int (0 : Int32)), (5, .int (nI e)), (0, .int (nI z)), (1, .int (nI e)), (2, .ref A)]) dJ6_getChars_ba4f3_12 (by decide) rfl ?_
  refine j_iload 0 dJ6_getChars_ba4f3_14 rfl ?_
  refine j_if_ne 22 dJ6_getChars_ba4f3_16 (by decide) (fun w => absurd w (by decide)) (fun _ => ?_)
  refine j_iload_n 2 dJ6_getChars_ba4f3_19 rfl ?_
  refine j_ineg dJ6_getChars_ba4f3_20 ?_
  refine j_istore_n (lv' := [(0, .int (-(nI z))), (6, .int (0 : Int32)), (5, .int (nI e)), (1, .int (nI e)), (2, .ref A)]) dJ6_getChars_ba4f3_21 (by decide) rfl ?_
  refine j_iload_n 0 dJ6_getChars_ba4f3_22 rfl ?_
  refine j_bipush (v := (-100 : Int32)) dJ6_getChars_ba4f3_23 (by decide) ?_
  refine j_icmp_gt 72 dJ6_getChars_ba4f3_25 (by decide) (fun h => ?_) (fun h => ?_)
  · have h99 : z < 100 := (neg_gt (c := 100) (by decide) (by omega) (by decide)).mp h
    have h9 : z ≤ 99 := by omega
    refine j_pick (lv' := [(0, .int (-nI z)), (2, .ref A), (5, .int (nI e)), (6, .int 0)]) [0, 4, 2, 1] rfl ?_
    exact gc_tail h9 he hec hc (fun H hH => ⟨rfl, by unfold gcA; rw [if_pos h9]; exact hH⟩)
  have h99 : ¬ z ≤ 99 := fun w => h ((neg_gt (c := 100) (by decide) (by omega) (by decide)).mpr (by omega))
  have e3 : ndg z = 3 := by unfold ndg; rw [if_neg (by omega), if_neg h99]
  have e1 : ndg (z / 100) = 1 := by unfold ndg; rw [if_pos (by omega)]
  rw [e3] at he ⊢
  refine j_iload_n 0 dJ6_getChars_ba4f3_28 rfl ?_
  refine j_bipush (v := (100 : Int32)) dJ6_getChars_ba4f3_29 (by decide) ?_
  refine j_idiv dJ6_getChars_ba4f3_31 (by decide) ?_
  refine j_intI (sb_ndiv (by omega)) ?_
  refine j_istore_n (lv' := [(3, .int (-nI (z / 100))), (0, .int (-(nI z))), (6, .int (0 : Int32)), (5, .int (nI e)), (1, .int (nI e)), (2, .ref A)]) dJ6_getChars_ba4f3_32 (by decide) rfl ?_
  refine j_iload_n 0 dJ6_getChars_ba4f3_33 rfl ?_
  refine j_bipush (v := (100 : Int32)) dJ6_getChars_ba4f3_34 (by decide) ?_
  refine j_imul dJ6_getChars_ba4f3_36 ?_
  refine j_iload_n 1 dJ6_getChars_ba4f3_37 rfl ?_
  refine j_isub dJ6_getChars_ba4f3_38 ?_
  refine j_intI (sb_nrem (by omega)) ?_
  refine j_istore (lv' := [(4, .int (nI (z % 100))), (3, .int (-nI (z / 100))), (0, .int (-(nI z))), (6, .int (0 : Int32)), (5, .int (nI e)), (1, .int (nI e)), (2, .ref A)]) dJ6_getChars_ba4f3_39 (by decide) rfl ?_
  refine j_iload_n 1 dJ6_getChars_ba4f3_41 rfl ?_
  refine j_istore_n (lv' := [(0, .int (-nI (z / 100))), (4, .int (nI (z % 100))), (3, .int (-nI (z / 100))), (6, .int (0 : Int32)), (5, .int (nI e)), (1, .int (nI e)), (2, .ref A)]) dJ6_getChars_ba4f3_42 (by decide) rfl ?_
  refine j_aload_n 6 dJ6_getChars_ba4f3_43 rfl ?_
  refine j_iincL (lv' := [(5, .int (nI (e - 1))), (0, .int (-nI (z / 100))), (4, .int (nI (z % 100))), (3, .int (-nI (z / 100))), (6, .int (0 : Int32)), (1, .int (nI e)), (2, .ref A)]) 4 dJ6_getChars_ba4f3_44 rfl (dec1 (by omega)) (by decide) rfl ?_
  refine j_iload 0 dJ6_getChars_ba4f3_47 rfl ?_
  refine j_gets dJ6_getChars_ba4f3_49 fl_J6_83 (fun s h => h.2.2.2.2.1.2.1) ?_
  refine j_iload 2 dJ6_getChars_ba4f3_52 rfl ?_
  refine j_tb (N := 100) (v := .int (nI (48 + z % 100 % 10))) dJ6_getChars_ba4f3_54 (fun s h => h.2.2.2.2.1.2.2.1) (vp_in_nI (by omega) (by decide)) (by rw [nI_clamp (by omega)]) ?_
  refine b_bast dJ6_getChars_ba4f3_55 (vp_in_nI (by omega) (by omega)) ?_
  rw [nI_clamp (n := e - 1) (by omega)]
  refine j_aload_n 6 dJ6_getChars_ba4f3_56 rfl ?_
  refine j_iincL (lv' := [(5, .int (nI (e - 1 - 1))), (0, .int (-nI (z / 100))), (4, .int (nI (z % 100))), (3, .int (-nI (z / 100))), (6, .int (0 : Int32)), (1, .int (nI e)), (2, .ref A)]) 0 dJ6_getChars_ba4f3_57 rfl (dec1 (by omega)) (by decide) rfl ?_
  refine j_iload 0 dJ6_getChars_ba4f3_60 rfl ?_
  refine j_gets dJ6_getChars_ba4f3_62 fl_J6_87 (fun s h => h.2.2.2.2.1.2.2.2.1) ?_
  refine j_iload 2 dJ6_getChars_ba4f3_65 rfl ?_
  refine j_tb (N := 100) (v := .int (nI (48 + z % 100 / 10))) dJ6_getChars_ba4f3_67 (fun s h => h.2.2.2.2.1.2.2.2.2.1) (vp_in_nI (by omega) (by decide)) (by rw [nI_clamp (by omega)]) ?_
  refine b_bast dJ6_getChars_ba4f3_68 (vp_in_nI (by omega) (by omega)) ?_
  rw [nI_clamp (n := e - 1 - 1) (by omega)]
  refine j_goto 22 dJ6_getChars_ba4f3_69 (by decide) ?_
  refine j_iload_n 1 dJ6_getChars_ba4f3_22 rfl ?_
  refine j_bipush (v := (-100 : Int32)) dJ6_getChars_ba4f3_23 (by decide) ?_
  refine j_icmp_gt 72 dJ6_getChars_ba4f3_25 (by decide) (fun _ => ?_) (fun w => absurd ((neg_gt (c := 100) (by decide) (by omega) (by decide)).mpr (by omega)) w)
  refine j_pick (lv' := [(0, .int (-nI (z / 100))), (2, .ref A), (5, .int (nI (e - 1 - 1))), (6, .int 0)]) [1, 6, 0, 4] rfl ?_
  refine gc_tail (by omega) (by omega) (by omega) hc (fun H hH => ⟨?_, ?_⟩)
  · rw [e1, show e - 1 - 1 - 1 = e - 3 by omega]
  · unfold gcA
    rw [if_neg h99]
    rw [show e - 1 - 1 = e - 2 by omega] at hH
    exact hH
