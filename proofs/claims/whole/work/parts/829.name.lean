/-! appendName, appendTerm, banns, byteAt -/
/-! the letters of a name, as the class takes them out of its number -/
theorem ls_shr {N : Nat} (h : N < 2 ^ 63) (s : Int64) (k : Nat) (hs : (s.toBitVec.smod 64).toNat = k) : lN N >>> s = lN (N / 2 ^ k) := by
  apply Int64.toInt_inj.mp
  have h2 : N / 2 ^ k ≤ N := Nat.div_le_self _ _
  have e : (lN N >>> s).toInt = (lN N).toInt >>> k := by
    show ((lN N).toBitVec.sshiftRight (s.toBitVec.smod 64).toNat).toInt = _
    rw [hs, BitVec.toInt_sshiftRight]
    rfl
  rw [e, pk_lT h, pk_lT (by omega), Int.shiftRight_eq_div_pow]
  rfl
theorem sh_at : ∀ s : Nat, s < 7 → (((nI s * 5).toInt64 &&& 63).toBitVec.smod 64).toNat = 5 * s := by decide
theorem let_at {N s : Nat} (hN : N < 34359738368) (hs : s < 7) : (lN N >>> ((nI s * 5).toInt64 &&& 63)).toInt32 &&& 31 = nI (N / 32 ^ s % 32) := by
  rw [ls_shr (by omega) _ (5 * s) (sh_at s hs), lN_i, pk_and _ 5 (by decide)]
  have e : (nI (N / 2 ^ (5 * s))).toBitVec.toNat = N / 2 ^ (5 * s) % 2 ^ 32 := by
    show (BitVec.ofNat 32 _).toNat = _
    rw [BitVec.toNat_ofNat]
  rw [e, Nat.pow_mul, show (2 : Nat) ^ 5 = 32 from rfl]
  generalize N / 32 ^ s = M
  congr 1
  omega
def pl : Nat → List Nat → List Nat
  | 0, _ => []
  | j + 1, r => (if r.getD j 0 = 0 then [] else [r.getD j 0]) ++ pl j r
theorem pl_take {r : List Nat} (h : ∀ d ∈ r, 1 ≤ d) : ∀ j, pl j r = (r.take j).reverse
  | 0 => rfl
  | j + 1 => by
    show (if r.getD j 0 = 0 then [] else [r.getD j 0]) ++ pl j r = _
    rw [pl_take h j]
    by_cases hj : j < r.length
    · have e : r.getD j 0 = r[j] := by
        rw [List.getD_eq_getElem?_getD, List.getElem?_eq_getElem hj]
        rfl
      have h1 := h r[j] (List.getElem_mem hj)
      rw [e, if_neg (by omega), List.take_succ, List.getElem?_eq_getElem hj, Option.toList_some, List.reverse_append]
      rfl
    · have e : r.getD j 0 = 0 := by
        rw [List.getD_eq_getElem?_getD, List.getElem?_eq_none (by omega)]
        rfl
      rw [e, if_pos rfl, List.take_of_length_le (by omega), List.take_of_length_le (by omega)]
      rfl
theorem pl_all {l : List Nat} (h : isNm l) : pl 7 l.reverse = l := by
  rw [pl_take (fun d hd => (h.1 d (List.mem_reverse.mp hd)).1), List.take_of_length_le (by rw [List.length_reverse]; exact h.2.2), List.reverse_reverse]
theorem I_nat (j : Nat) : Int32.ofInt (j : Int) = nI j := rfl
theorem lt96_cons (x : Nat) (l : List Nat) : lt96 (x :: l) = [((96 + x : Nat) : Int)] ++ lt96 l := by
  unfold lt96
  simp
theorem nm_loop {l : Launch} {E : ee} {Γ : ly} {σ : mm} {Q : Option Value → Heap → Prop} {d mc ms : Nat} {nm : List Nat} (hB : EB E) (hdd : 6 ≤ d) (t0 : tyOK Γ (0, 11) 64) (h9 : σ.2.2 64 16 = some 209) (hnm : isNm nm) : ∀ (j cap : Nat) (T : List Int) (k n : Nat), j ≤ 7 → c16 cap → T.length ≤ cap → T.length + (pl j nm.reverse).length ≤ 34 → k + gK cap (T.length + (pl j nm.reverse).length) ≤ mc → n + 34 * gK cap (T.length + (pl j nm.reverse).length) ≤ ms → (∀ H, BI E Γ σ (gC cap (T.length + (pl j nm.reverse).length)) (T ++ lt96 (pl j nm.reverse)) H → Q none H) → WJ l (ET E) yX12_appendName cX12_appendName 5 none d mc ms Q k n 3 [(3, .int (Int32.ofInt ((j : Int) - 1))), (0, .ref (E.1.2.1 64)), (1, .long (lN (n5 nm)))] [] (BI E Γ σ cap T) := by
  have hN : n5 nm < 34359738368 := n5_up (fun x hx => (hnm.1 x hx).2) hnm.2.2
  intro j
  induction j with
  | zero =>
    intro cap T k n hj hc hT h34 hk hn hQ
    refine j_iload_n 0 dX12_appendName_3 rfl ?_
    refine j_if_lt 45 dX12_appendName_4 (by decide) (fun _ => ?_) (fun w => absurd (by decide) w)
    have e0 : gC cap (T.length + (pl 0 nm.reverse).length) = cap := by
      show gC cap T.length = cap
      exact if_pos hT
    rw [e0] at hQ
    exact j_return dX12_appendName_45 rfl (fun H h => hQ H (by rw [show T ++ lt96 (pl 0 nm.reverse) = T from List.append_nil T]; exact h)) (by omega) (by omega)
  | succ j ih =>
    intro cap T k n hj hc hT h34 hk hn hQ
    have ej : Int32.ofInt (((j + 1 : Nat) : Int) - 1) = nI j := by rw [show ((j + 1 : Nat) : Int) - 1 = (j : Int) by omega]; rfl
    rw [ej]
    obtain ⟨x, hx⟩ : ∃ x, x = nm.reverse.getD j 0 := ⟨_, rfl⟩
    have hx26 : x ≤ 26 := by
      rw [hx, List.getD_eq_getElem?_getD]
      cases hq : nm.reverse[j]? with
      | none => simp
      | some v => exact (hnm.1 v (List.mem_reverse.mp (List.mem_of_getElem? hq))).2
    have hlet : (lN (n5 nm) >>> ((nI j * 5).toInt64 &&& 63)).toInt32 &&& 31 = nI x := by
      rw [let_at hN (by omega), n5_at j nm (fun d hd => (hnm.1 d hd).2), hx]
    have epl : pl (j + 1) nm.reverse = (if x = 0 then [] else [x]) ++ pl j nm.reverse := by
      rw [hx]
      rfl
    refine j_iload_n 0 dX12_appendName_3 rfl ?_
    refine j_if_lt 45 dX12_appendName_4 (by decide) (fun w => absurd w (nI_pos (by omega))) (fun _ => ?_)
    refine j_lload_n 2 dX12_appendName_7 rfl ?_
    refine j_iload_n 0 dX12_appendName_8 rfl ?_
    refine j_iconst (v := (5 : Int32)) dX12_appendName_9 (by decide) ?_
    refine j_imul dX12_appendName_10 ?_
    refine j_lshr dX12_appendName_11 ?_
    refine j_l2i dX12_appendName_12 ?_
    refine j_bipush (v := (31 : Int32)) dX12_appendName_13 (by decide) ?_
    refine j_iand dX12_appendName_15 ?_
    refine j_intI (hlet) ?_
    refine j_istore (lv' := [(4, .int (nI x)), (3, .int (nI j)), (0, .ref (E.1.2.1 64)), (1, .long (lN (n5 nm)))]) dX12_appendName_16 (by decide) rfl ?_
    refine j_iload 0 dX12_appendName_18 rfl ?_
    have tail : ∀ (cap1 : Nat) (T1 : List Int) (k1 n1 : Nat), c16 cap1 → T1.length ≤ cap1 → T1.length + (pl j nm.reverse).length ≤ 34 → k1 + gK cap1 (T1.length + (pl j nm.reverse).length) ≤ mc → n1 + 34 * gK cap1 (T1.length + (pl j nm.reverse).length) ≤ ms → (∀ H, BI E Γ σ (gC cap1 (T1.length + (pl j nm.reverse).length)) (T1 ++ lt96 (pl j nm.reverse)) H → Q none H) → WJ l (ET E) yX12_appendName cX12_appendName 5 none d mc ms Q k1 n1 39 [(4, .int (nI x)), (3, .int (nI j)), (0, .ref (E.1.2.1 64)), (1, .long (lN (n5 nm)))] [] (BI E Γ σ cap1 T1) := by
      intro cap1 T1 k1 n1 g1 g2 g3 g4 g5 g6
      refine j_iincL (lv' := [(3, .int (Int32.ofInt ((j : Int) - 1))), (4, .int (nI x)), (0, .ref (E.1.2.1 64)), (1, .long (lN (n5 nm)))]) 1 dX12_appendName_39 rfl ?_ (by decide) rfl ?_
      · rw [show nI j = Int32.ofInt (j : Int) from rfl, ← Int32.ofInt_add]
        rfl
      refine j_goto 3 dX12_appendName_42 (by decide) ?_
      refine j_pick (lv' := [(3, .int (Int32.ofInt ((j : Int) - 1))), (0, .ref (E.1.2.1 64)), (1, .long (lN (n5 nm)))]) [0, 2, 3] rfl ?_
      exact ih cap1 T1 k1 n1 (by omega) g1 g2 g3 g4 g5 g6
    refine j_if_le 39 dX12_appendName_20 (by decide) (fun h => ?_) (fun h => ?_)
    · have h0 : x = 0 := by
        rcases Nat.eq_zero_or_pos x with h1 | h1
        · exact h1
        · exact absurd h (nI_nle h1 (by omega))
      rw [if_pos h0, List.nil_append] at epl
      rw [epl] at h34 hk hn hQ
      exact tail cap T k n hc hT h34 hk hn hQ
    have h0 : ¬ x = 0 := fun e => h (by rw [e]; decide)
    rw [if_neg h0] at epl
    have el : (pl (j + 1) nm.reverse).length = 1 + (pl j nm.reverse).length := by rw [epl, List.length_append]; rfl
    have eg : T.length + (pl (j + 1) nm.reverse).length = T.length + 1 + (pl j nm.reverse).length := by omega
    rw [eg] at h34 hk hn hQ
    have hg := gK_gK (cap := cap) (a := T.length + 1) (b := T.length + 1 + (pl j nm.reverse).length) (by omega) h34
    have hgc := gC_gC (cap := cap) (a := T.length + 1) (b := T.length + 1 + (pl j nm.reverse).length) (by omega) h34
    refine j_aload_n 2 dX12_appendName_23 rfl ?_
    refine c_getR dX12_appendName_24 fd_X12_108 t0 h9 ?_
    refine j_iload 0 dX12_appendName_27 rfl ?_
    refine j_bipush (v := (97 : Int32)) dX12_appendName_29 (by decide) ?_
    refine j_iadd dX12_appendName_31 ?_
    refine j_iconst (v := (1 : Int32)) dX12_appendName_32 (by decide) ?_
    refine j_isub dX12_appendName_33 ?_
    have h97 : nI x + 97 - 1 = nI (96 + x) := by
      rw [show (97 : Int32) = nI 97 from rfl, nI_add, show (1 : Int32) = nI 1 from rfl, pk_sub (by omega), show x + 97 - 1 = 96 + x by omega]
    refine j_intI (h97) ?_
    refine j_i2c dX12_appendName_34 ?_
    refine j_intI ((sb_byte (96 + x) (by omega)).2.1) ?_
    refine c_callB [.int (nI (96 + x))] hB dX12_appendName_35 cv_X12_392 rfl rfl rfl (Nat.le_of_ble_eq_true rfl) (show d - 1 + 1 ≤ d by omega) (by omega) (by omega) (fun A f ml hX => t_appendC hB.1 (d - 1) (by omega) hc hT (by omega) (by omega) hX) ?_
    refine j_pop dX12_appendName_38 rfl ?_
    refine tail _ _ _ _ (gC_c16 hc) ?_ ?_ ?_ ?_ (fun H hH => hQ H ?_)
    · rw [List.length_append]
      exact gC_ge (by show T.length + 1 ≤ 34; omega)
    · rw [List.length_append]
      exact h34
    · rw [List.length_append]
      show k + gK cap (T.length + 1) + gK (gC cap (T.length + 1)) (T.length + 1 + (pl j nm.reverse).length) ≤ mc
      omega
    · rw [List.length_append]
      show n + 34 * gK cap (T.length + 1) + 34 * gK (gC cap (T.length + 1)) (T.length + 1 + (pl j nm.reverse).length) ≤ ms
      omega
    · rw [List.length_append] at hH
      have hH2 : BI E Γ σ (gC (gC cap (T.length + 1)) (T.length + 1 + (pl j nm.reverse).length)) (T ++ [((96 + x : Nat) : Int)] ++ lt96 (pl j nm.reverse)) H := hH
      rw [hgc] at hH2
      rw [epl, show [x] ++ pl j nm.reverse = x :: pl j nm.reverse from rfl, lt96_cons, ← List.append_assoc]
      exact hH2
theorem k_appendName {l : Launch} {E : ee} {Γ : ly} {σ : mm} {d : Nat} {nm : List Nat} {cap : Nat} {T : List Int} (hB : EB E) (hdd : 6 ≤ d) (t0 : tyOK Γ (0, 11) 64) (h9 : σ.2.2 64 16 = some 209) (hnm : isNm nm) (hc : c16 cap) (hT : T.length ≤ cap) (h34 : T.length + nm.length ≤ 34) : CJ l (ET E) yX12_appendName cX12_appendName 5 none d (gK cap (T.length + nm.length)) (34 * gK cap (T.length + nm.length)) [.ref (E.1.2.1 64), .long (lN (n5 nm))] (BI E Γ σ cap T) (fun v H => v = none ∧ BI E Γ σ (gC cap (T.length + nm.length)) (T ++ lt96 nm) H) := by
  refine CJ.ofWJ hB.ok (by decide) (Nat.le_of_ble_eq_true rfl) ?_
  show WJ l (ET E) yX12_appendName cX12_appendName 5 none d (gK cap (T.length + nm.length)) (34 * gK cap (T.length + nm.length)) (fun v H => v = none ∧ BI E Γ σ (gC cap (T.length + nm.length)) (T ++ lt96 nm) H) 0 0 0 [(0, .ref (E.1.2.1 64)), (1, .long (lN (n5 nm)))] [] (BI E Γ σ cap T)
  have e := pl_all hnm
  refine j_bipush (v := (6 : Int32)) dX12_appendName_0 (by decide) ?_
  refine j_istore_n (lv' := [(3, .int (6 : Int32)), (0, .ref (E.1.2.1 64)), (1, .long (lN (n5 nm)))]) dX12_appendName_2 (by decide) rfl ?_
  refine nm_loop hB hdd t0 h9 hnm 7 cap T 0 0 (by omega) hc hT (by rw [e]; exact h34) (by rw [e]; omega) (by rw [e]; omega) (fun H h => ⟨rfl, ?_⟩)
  rw [e] at h
  exact h
section CX
variable {l : Launch} {E : ee} {y : MethodName} {cc : ByteArray} {nL : Nat} {ret : Option FieldType} {d mc ms : Nat} {Q : Option Value → Heap → Prop} {k n pc : Nat} {lv : List (Nat × Value)} {st : List Value} {Γ : ly} {σ : mm} {I I3 : Heap → Prop}
theorem c_callX {index : Nat} {y2 : MethodName} {cc2 : ByteArray} {nL2 np d2 mc2 ms2 : Nat} {ret2 : Option FieldType} {rv : Option Value} (As : List Value) {As' : List Value} (hd : decode cc pc = .ok (.invokevirtual index, 3)) (C : CVd y.cls index y2 cc2 nL2 ret2 np) (hy2 : y2.cls = RX12) (t0 : tyOK Γ (0, 11) 64) (hI : ∀ H, I H → Rep E.1 Γ σ H) (hn : As.length = np) (has : As.reverse ++ .ref (E.1.2.1 64) :: st = As') (hst : (st.map fun v => v.category).sum ≤ 8) (hdd : d2 + 1 ≤ d) (hm1 : k + mc2 ≤ mc) (hm2 : n + ms2 ≤ ms)
    (hM : CJ l (ET E) y2 cc2 nL2 ret2 d2 mc2 ms2 (.ref (E.1.2.1 64) :: As) I (fun v H => v = rv ∧ I3 H)) (kk : WJ l (ET E) y cc nL ret d mc ms Q (k + mc2) (n + ms2) (pc + 3) lv (rv.toList ++ st) I3) : WJ l (ET E) y cc nL ret d mc ms Q k n pc lv As' I :=
  j_cV As hd C (fun s H locs hE hK hH S => by
    rw [hy2]
    exact va_recv hK.1.1 (one_P ((hI H hH).obj t0)) (q0 := 0) (ci := 11) rfl rfl) hn has hst hdd hm1 hm2 hM kk
end CX
/-- what appendTerm writes, and the class's region behind it -/
def TmOK (S : Nat → Nat × Nat) (σ : mm) (g : Int32) (σ' : mm) (L : List Int) : Prop := (fX3_isLapsed S σ 104 g = some 1 ∧ σ' = σ ∧ L = sLt 1) ∨ (fX3_isLapsed S σ 104 g = some 0 ∧ ∃ re : Int32, fX12_endOf S σ 64 g = some (re, σ') ∧ σ'.2.2 64 16 = some 209 ∧ σ'.2.2 64 4 = some 104 ∧ ((re = -1 ∧ L = sLt 2) ∨ (¬ re = -1 ∧ ∃ z : Nat, z < 1000 ∧ re - σ'.1 104 1 = nI z ∧ L = sLt 3 ++ digs 3 z)))
theorem k_appendTerm {l : Launch} {E : ee} {Γ : ly} {σ σ' : mm} {d : Nat} {g : Int32} {cap : Nat} {T L : List Int} (hB : EB E) (hdd : 6 ≤ d) (t0 : tyOK Γ (0, 11) 64) (t3 : tyOK Γ (0, 3) 104) (h9 : σ.2.2 64 16 = some 209) (h4 : σ.2.2 64 4 = some 104) (hL : TmOK Γ.2 σ g σ' L) (hc : c16 cap) (hT : T.length ≤ cap) (h34 : T.length + L.length ≤ 34) : CJ l (ET E) yX12_appendTerm cX12_appendTerm 3 none d (gK cap (T.length + L.length)) (34 * gK cap (T.length + L.length)) [.ref (E.1.2.1 64), .int g] (BI E Γ σ cap T) (fun v H => v = none ∧ BI E Γ σ' (gC cap (T.length + L.length)) (T ++ L) H) := by
  refine CJ.ofWJ hB.ok (by decide) (Nat.le_of_ble_eq_true rfl) ?_
  show WJ l (ET E) yX12_appendTerm cX12_appendTerm 3 none d (gK cap (T.length + L.length)) (34 * gK cap (T.length + L.length)) (fun v H => v = none ∧ BI E Γ σ' (gC cap (T.length + L.length)) (T ++ L) H) 0 0 0 [(0, .ref (E.1.2.1 64)), (1, .int g)] [] (BI E Γ σ cap T)
  refine j_aload_n 0 dX12_appendTerm_0 rfl ?_
  refine c_getR dX12_appendTerm_1 fd_X12_40 t0 h4 ?_
  refine j_iload_n 1 dX12_appendTerm_4 rfl ?_
  rcases hL with ⟨f1, rfl, rfl⟩ | ⟨f0, re, fe, h9', h4', hre⟩
  · refine c_callC [.int g] hB dX12_appendTerm_5 cv_X12_204 rfl rfl t3 rfl rfl (Nat.le_of_ble_eq_true rfl) (show d - 1 + 1 ≤ d by omega) (Nat.zero_le _) (Nat.zero_le _) (kX3_isLapsed (d - 1) (Nat.zero_le _) 104 g t3 1 f1) ?_
    refine j_if_eq 23 dX12_appendTerm_8 (by decide) (fun w => absurd w (by decide)) (fun _ => ?_)
    refine j_aload_n 0 dX12_appendTerm_11 rfl ?_
    refine c_getR dX12_appendTerm_12 fd_X12_108 t0 h9 ?_
    refine j_ldcw (i := 1) dX12_appendTerm_15 (by decide) rfl rfl ?_
    refine c_callB [.ref (E.2.1.2 1).1] hB dX12_appendTerm_18 cv_X12_381 rfl rfl rfl (Nat.le_of_ble_eq_true rfl) (show d - 1 + 1 ≤ d by omega) (Nat.le_of_eq (Nat.zero_add _)) (Nat.le_of_eq (Nat.zero_add _)) (fun A f ml hX => t_appendS hB.1 (d - 1) (by omega) (i := 1) (by decide) hc hT h34 hX) ?_
    refine j_pop dX12_appendTerm_21 rfl ?_
    exact j_return dX12_appendTerm_22 rfl (fun H h => ⟨rfl, h⟩) (Nat.le_of_eq (Nat.zero_add _)) (Nat.le_of_eq (Nat.zero_add _))
  refine c_callC [.int g] hB dX12_appendTerm_5 cv_X12_204 rfl rfl t3 rfl rfl (Nat.le_of_ble_eq_true rfl) (show d - 1 + 1 ≤ d by omega) (Nat.zero_le _) (Nat.zero_le _) (kX3_isLapsed (d - 1) (Nat.zero_le _) 104 g t3 0 f0) ?_
  refine j_if_eq 23 dX12_appendTerm_8 (by decide) (fun _ => ?_) (fun w => absurd (rfl) w)
  refine j_aload_n 0 dX12_appendTerm_23 rfl ?_
  refine j_iload_n 1 dX12_appendTerm_24 rfl ?_
  refine c_callC (rv := some (.int re)) (σ2 := σ') [.int g] hB dX12_appendTerm_25 cv_X12_296 rfl rfl t0 rfl rfl (Nat.le_of_ble_eq_true rfl) (show d - 1 + 1 ≤ d by omega) (Nat.zero_le _) (Nat.zero_le _) (kX12_endOf (d - 1) (by omega) 64 g t0 (re, σ') fe) ?_
  refine j_istore_n (lv' := [(2, .int re), (0, .ref (E.1.2.1 64)), (1, .int g)]) dX12_appendTerm_28 (by decide) rfl ?_
  refine j_iload_n 0 dX12_appendTerm_29 rfl ?_
  refine j_iconst (v := (-1 : Int32)) dX12_appendTerm_30 (by decide) ?_
  rcases hre with ⟨e1, rfl⟩ | ⟨e1, z, hz, ez, rfl⟩
  · refine j_icmp_ne 46 dX12_appendTerm_31 (by decide) (fun w => absurd w (fun w9 => w9 e1)) (fun _ => ?_)
    refine j_aload_n 1 dX12_appendTerm_34 rfl ?_
    refine c_getR dX12_appendTerm_35 fd_X12_108 t0 h9' ?_
    refine j_ldcw (i := 2) dX12_appendTerm_38 (by decide) rfl rfl ?_
    refine c_callB [.ref (E.2.1.2 2).1] hB dX12_appendTerm_41 cv_X12_381 rfl rfl rfl (Nat.le_of_ble_eq_true rfl) (show d - 1 + 1 ≤ d by omega) (Nat.le_of_eq (Nat.zero_add _)) (Nat.le_of_eq (Nat.zero_add _)) (fun A f ml hX => t_appendS hB.1 (d - 1) (by omega) (i := 2) (by decide) hc hT h34 hX) ?_
    refine j_pop dX12_appendTerm_44 rfl ?_
    exact j_return dX12_appendTerm_45 rfl (fun H h => ⟨rfl, h⟩) (Nat.le_of_eq (Nat.zero_add _)) (Nat.le_of_eq (Nat.zero_add _))
  refine j_icmp_ne 46 dX12_appendTerm_31 (by decide) (fun _ => ?_) (fun w => absurd w (e1))
  have eL : (sLt 3 ++ digs 3 z).length = 5 + (digs 3 z).length := by rw [List.length_append]; rfl
  have e5 : (sLt 3).length = 5 := rfl
  have el2 : (T ++ sLt 3).length = T.length + 5 := by rw [List.length_append, e5]
  rw [eL] at h34 ⊢
  have hg := gK_gK (cap := cap) (a := T.length + 5) (b := T.length + (5 + (digs 3 z).length)) (by omega) h34
  have hgc := gC_gC (cap := cap) (a := T.length + 5) (b := T.length + (5 + (digs 3 z).length)) (by omega) h34
  refine j_aload_n 1 dX12_appendTerm_46 rfl ?_
  refine c_getR dX12_appendTerm_47 fd_X12_108 t0 h9' ?_
  refine j_ldcw (i := 3) dX12_appendTerm_50 (by decide) rfl rfl ?_
  refine c_callB [.ref (E.2.1.2 3).1] hB dX12_appendTerm_53 cv_X12_381 rfl rfl rfl (Nat.le_of_ble_eq_true rfl) (show d - 1 + 1 ≤ d by omega) (by show 0 + gK cap (T.length + 5) ≤ _; omega) (by show 0 + 34 * gK cap (T.length + 5) ≤ _; omega) (fun A f ml hX => t_appendS hB.1 (d - 1) (by omega) (i := 3) (by decide) hc hT (by rw [e5]; omega) hX) ?_
  refine j_pop dX12_appendTerm_56 rfl ?_
  refine j_aload_n 1 dX12_appendTerm_57 rfl ?_
  refine c_getR dX12_appendTerm_58 fd_X12_108 t0 h9' ?_
  refine j_iload_n 0 dX12_appendTerm_61 rfl ?_
  refine j_aload_n 1 dX12_appendTerm_62 rfl ?_
  refine c_getR dX12_appendTerm_63 fd_X12_40 t0 h4' ?_
  refine c_getI dX12_appendTerm_66 fd_X12_213 t3 ?_
  refine j_isub dX12_appendTerm_69 ?_
  refine j_intI (ez) ?_
  refine c_callB [.int (nI z)] hB dX12_appendTerm_70 cv_X12_401 rfl rfl rfl (Nat.le_of_ble_eq_true rfl) (show d - 1 + 1 ≤ d by omega) ?_ ?_ (fun A f ml hX => t_appendI hB.1 (d - 1) (by omega) hz (gC_c16 hc) (by rw [el2]; exact gC_ge (by omega)) (by rw [el2]; omega) hX) ?_
  · rw [el2]
    show 0 + gK cap (T.length + 5) + gK (gC cap (T.length + 5)) (T.length + 5 + (digs 3 z).length) ≤ _
    rw [show T.length + 5 + (digs 3 z).length = T.length + (5 + (digs 3 z).length) by omega]
    omega
  · rw [el2]
    show 0 + 34 * gK cap (T.length + 5) + 34 * gK (gC cap (T.length + 5)) (T.length + 5 + (digs 3 z).length) ≤ _
    rw [show T.length + 5 + (digs 3 z).length = T.length + (5 + (digs 3 z).length) by omega]
    omega
  refine j_pop dX12_appendTerm_73 rfl ?_
  refine j_return dX12_appendTerm_74 rfl (fun H h => ⟨rfl, ?_⟩) ?_ ?_
  · rw [el2] at h
    have h2 : BI E Γ σ' (gC (gC cap (T.length + 5)) (T.length + 5 + (digs 3 z).length)) (T ++ sLt 3 ++ digs 3 z) H := h
    rw [show T.length + 5 + (digs 3 z).length = T.length + (5 + (digs 3 z).length) by omega, hgc] at h2
    rw [← List.append_assoc]
    exact h2
  · rw [el2]
    show 0 + gK cap (T.length + 5) + gK (gC cap (T.length + 5)) (T.length + 5 + (digs 3 z).length) ≤ _
    rw [show T.length + 5 + (digs 3 z).length = T.length + (5 + (digs 3 z).length) by omega]
    omega
  · rw [el2]
    show 0 + 34 * gK cap (T.length + 5) + 34 * gK (gC cap (T.length + 5)) (T.length + 5 + (digs 3 z).length) ≤ _
    rw [show T.length + 5 + (digs 3 z).length = T.length + (5 + (digs 3 z).length) by omega]
    omega
