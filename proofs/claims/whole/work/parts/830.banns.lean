/-! banns, byteAt -/
theorem k_bannsNo {l : Launch} {E : ee} {Γ : ly} {σ : mm} {d : Nat} {g : Int32} {cap : Nat} {T : List Int} (hB : EB E) (hdd : 7 ≤ d) (t0 : tyOK Γ (0, 11) 64) (t4 : tyOK Γ (0, 4) 67) (h1 : σ.2.2 64 1 = some 67) (hg : fX4_hasGlass Γ.2 σ 67 g = some 0) : CJ l (ET E) yX12_banns cX12_banns 2 (some .int) d 1 34 [.ref (E.1.2.1 64), .int g] (BI E Γ σ cap T) (fun v H => v = some (.int (-1)) ∧ BI E Γ σ cap T H) := by
  refine CJ.ofWJ hB.ok (by decide) (Nat.le_of_ble_eq_true rfl) ?_
  show WJ l (ET E) yX12_banns cX12_banns 2 (some .int) d 1 34 (fun v H => v = some (.int (-1)) ∧ BI E Γ σ cap T H) 0 0 0 [(0, .ref (E.1.2.1 64)), (1, .int g)] [] (BI E Γ σ cap T)
  refine j_aload_n 0 dX12_banns_0 rfl ?_
  refine c_getR dX12_banns_1 fd_X12_19 t0 h1 ?_
  refine j_iload_n 1 dX12_banns_4 rfl ?_
  refine c_callC [.int g] hB dX12_banns_5 cv_X12_181 rfl rfl t4 rfl rfl (Nat.le_of_ble_eq_true rfl) (show d - 1 + 1 ≤ d by omega) (Nat.zero_le _) (Nat.zero_le _) (kX4_hasGlass (d - 1) (Nat.zero_le _) 67 g t4 0 hg) ?_
  refine j_if_ne 13 dX12_banns_8 (by decide) (fun w => absurd w (fun w9 => w9 rfl)) (fun _ => ?_)
  refine j_iconst (v := (-1 : Int32)) dX12_banns_11 (by decide) ?_
  exact j_ireturn dX12_banns_12 rfl (fun H h => ⟨rfl, h⟩) (Nat.zero_le _) (Nat.zero_le _)
theorem k_banns {l : Launch} {E : ee} {Γ : ly} {σ σ' : mm} {d : Nat} {g : Int32} {cap : Nat} {T L : List Int} {l1 l2 : List Nat} (hB : EB E) (hdd : 7 ≤ d) (t0 : tyOK Γ (0, 11) 64) (t3 : tyOK Γ (0, 3) 104) (t4 : tyOK Γ (0, 4) 67) (tn : tyOK Γ (4, 0) 68) (tf : tyOK Γ (1, 0) 75) (ts : tyOK Γ (1, 0) 76) (h1 : σ.2.2 64 1 = some 67) (h9 : σ.2.2 64 16 = some 209) (h4 : σ.2.2 64 4 = some 104) (hn : σ.2.2 67 0 = some 68) (hf : σ.2.2 67 8 = some 75) (hs : σ.2.2 67 9 = some 76) (h9' : σ'.2.2 64 16 = some 209) (hg : fX4_hasGlass Γ.2 σ 67 g = some 1) (g1 : vp_in g (Γ.2 75).2) (g2 : vp_in g (Γ.2 76).2) (g3 : vp_in (σ.1 75 g.toNatClampNeg) (Γ.2 68).2) (g4 : vp_in (σ.1 76 g.toNatClampNeg) (Γ.2 68).2) (n1 : isNm l1) (n2 : isNm l2) (e1 : σ.2.1 68 (σ.1 75 g.toNatClampNeg).toNatClampNeg = lN (n5 l1)) (e2 : σ.2.1 68 (σ.1 76 g.toNatClampNeg).toNatClampNeg = lN (n5 l2)) (hL : TmOK Γ.2 σ g σ' L) (hc : c16 cap) (hT : T.length ≤ 34) (h34 : (lt96 l1 ++ sLt 0 ++ lt96 l2 ++ L).length ≤ 34) : CJ l (ET E) yX12_banns cX12_banns 2 (some .int) d 1 34 [.ref (E.1.2.1 64), .int g] (BI E Γ σ cap T) (fun v H => v = some (.int (nI (lt96 l1 ++ sLt 0 ++ lt96 l2 ++ L).length)) ∧ ∃ cap', c16 cap' ∧ (lt96 l1 ++ sLt 0 ++ lt96 l2 ++ L).length ≤ cap' ∧ BI E Γ σ' cap' (lt96 l1 ++ sLt 0 ++ lt96 l2 ++ L) H) := by
  refine CJ.ofWJ hB.ok (by decide) (Nat.le_of_ble_eq_true rfl) ?_
  show WJ l (ET E) yX12_banns cX12_banns 2 (some .int) d 1 34 (fun v H => v = some (.int (nI (lt96 l1 ++ sLt 0 ++ lt96 l2 ++ L).length)) ∧ ∃ cap', c16 cap' ∧ (lt96 l1 ++ sLt 0 ++ lt96 l2 ++ L).length ≤ cap' ∧ BI E Γ σ' cap' (lt96 l1 ++ sLt 0 ++ lt96 l2 ++ L) H) 0 0 0 [(0, .ref (E.1.2.1 64)), (1, .int g)] [] (BI E Γ σ cap T)
  have q1 : (lt96 l1).length = l1.length := lt96_len l1
  have q2 : (lt96 l2).length = l2.length := lt96_len l2
  have q0 : (sLt 0).length = 5 := rfl
  have ql : (lt96 l1 ++ sLt 0 ++ lt96 l2 ++ L).length = l1.length + 5 + l2.length + L.length := by simp only [List.length_append, q1, q2, q0]
  rw [ql] at h34
  have m1 : (([] : List Int) ++ lt96 l1).length = l1.length := by rw [List.nil_append, q1]
  have m2 : ([] ++ lt96 l1 ++ sLt 0).length = l1.length + 5 := by rw [List.length_append, m1, q0]
  have m3 : ([] ++ lt96 l1 ++ sLt 0 ++ lt96 l2).length = l1.length + 5 + l2.length := by rw [List.length_append, m2, q2]
  have k1 := gK_gK (cap := cap) (a := l1.length) (b := l1.length + 5) (by omega) (by omega)
  have k2 := gK_gK (cap := cap) (a := l1.length + 5) (b := l1.length + 5 + l2.length) (by omega) (by omega)
  have k3 := gK_gK (cap := cap) (a := l1.length + 5 + l2.length) (b := l1.length + 5 + l2.length + L.length) (by omega) (by omega)
  have c1 := gC_gC (cap := cap) (a := l1.length) (b := l1.length + 5) (by omega) (by omega)
  have c2 := gC_gC (cap := cap) (a := l1.length + 5) (b := l1.length + 5 + l2.length) (by omega) (by omega)
  have c3 := gC_gC (cap := cap) (a := l1.length + 5 + l2.length) (b := l1.length + 5 + l2.length + L.length) (by omega) (by omega)
  have kk : gK cap (l1.length + 5 + l2.length + L.length) ≤ 1 := by unfold gK; split <;> omega
  refine j_aload_n 0 dX12_banns_0 rfl ?_
  refine c_getR dX12_banns_1 fd_X12_19 t0 h1 ?_
  refine j_iload_n 1 dX12_banns_4 rfl ?_
  refine c_callC [.int g] hB dX12_banns_5 cv_X12_181 rfl rfl t4 rfl rfl (Nat.le_of_ble_eq_true rfl) (show d - 1 + 1 ≤ d by omega) (Nat.zero_le _) (Nat.zero_le _) (kX4_hasGlass (d - 1) (Nat.zero_le _) 67 g t4 1 hg) ?_
  refine j_if_ne 13 dX12_banns_8 (by decide) (fun _ => ?_) (fun w => absurd w (by decide))
  refine j_aload_n 0 dX12_banns_13 rfl ?_
  refine c_getR dX12_banns_14 fd_X12_108 t0 h9 ?_
  refine j_iconst (v := (0 : Int32)) dX12_banns_17 (by decide) ?_
  refine c_callB [.int 0] hB dX12_banns_18 cv_X12_368 rfl rfl rfl (Nat.le_of_ble_eq_true rfl) (show d - 1 + 1 ≤ d by omega) (Nat.zero_le _) (Nat.zero_le _) (fun A f ml hX => t_setLength hB.1 (d - 1) (by omega) hc hT hX) ?_
  refine j_aload_n 0 dX12_banns_21 rfl ?_
  refine j_aload_n 0 dX12_banns_22 rfl ?_
  refine c_getR dX12_banns_23 fd_X12_19 t0 h1 ?_
  refine c_getR dX12_banns_26 fd_X12_371 t4 hn ?_
  refine j_aload_n 0 dX12_banns_29 rfl ?_
  refine c_getR dX12_banns_30 fd_X12_19 t0 h1 ?_
  refine c_getR dX12_banns_33 fd_X12_186 t4 hf ?_
  refine j_iload_n 1 dX12_banns_36 rfl ?_
  refine c_iald dX12_banns_37 tf g1 ?_
  refine c_lald dX12_banns_38 tn g3 ?_
  rw [e1]
  refine c_callX [.long (lN (n5 l1))] dX12_banns_39 cv_X12_375 rfl t0 (fun H h => h.1) rfl rfl (Nat.le_of_ble_eq_true rfl) (show d - 1 + 1 ≤ d by omega) ?_ ?_ (k_appendName (d := d - 1) (T := []) hB (by omega) t0 h9 n1 hc (Nat.zero_le _) (by show 0 + l1.length ≤ 34; omega)) ?_
  · rw [show ([] : List Int).length + l1.length = l1.length from Nat.zero_add _]
    omega
  · rw [show ([] : List Int).length + l1.length = l1.length from Nat.zero_add _]
    omega
  rw [show ([] : List Int).length + l1.length = l1.length from Nat.zero_add _]
  refine j_aload_n 0 dX12_banns_42 rfl ?_
  refine c_getR dX12_banns_43 fd_X12_108 t0 h9 ?_
  refine j_ldcw (i := 0) dX12_banns_46 (by decide) rfl rfl ?_
  refine c_callB [.ref (E.2.1.2 0).1] hB dX12_banns_49 cv_X12_381 rfl rfl rfl (Nat.le_of_ble_eq_true rfl) (show d - 1 + 1 ≤ d by omega) ?_ ?_ (fun A f ml hX => t_appendS hB.1 (d - 1) (by omega) (i := 0) (by decide) (gC_c16 hc) (by rw [m1]; exact gC_ge (by omega)) (by rw [m1, q0]; omega) hX) ?_
  · rw [m1, q0]
    omega
  · rw [m1, q0]
    omega
  rw [m1, q0, c1]
  refine j_pop dX12_banns_52 rfl ?_
  refine j_aload_n 0 dX12_banns_53 rfl ?_
  refine j_aload_n 0 dX12_banns_54 rfl ?_
  refine c_getR dX12_banns_55 fd_X12_19 t0 h1 ?_
  refine c_getR dX12_banns_58 fd_X12_371 t4 hn ?_
  refine j_aload_n 0 dX12_banns_61 rfl ?_
  refine c_getR dX12_banns_62 fd_X12_19 t0 h1 ?_
  refine c_getR dX12_banns_65 fd_X12_189 t4 hs ?_
  refine j_iload_n 1 dX12_banns_68 rfl ?_
  refine c_iald dX12_banns_69 ts g2 ?_
  refine c_lald dX12_banns_70 tn g4 ?_
  rw [e2]
  refine c_callX [.long (lN (n5 l2))] dX12_banns_71 cv_X12_375 rfl t0 (fun H h => h.1) rfl rfl (Nat.le_of_ble_eq_true rfl) (show d - 1 + 1 ≤ d by omega) ?_ ?_ (k_appendName (d := d - 1) hB (by omega) t0 h9 n2 (gC_c16 hc) (by rw [m2]; exact gC_ge (by omega)) (by rw [m2]; omega)) ?_
  · rw [m2]
    omega
  · rw [m2]
    omega
  rw [m2, c2]
  refine j_aload_n 0 dX12_banns_74 rfl ?_
  refine j_iload_n 1 dX12_banns_75 rfl ?_
  refine c_callX [.int g] dX12_banns_76 cv_X12_384 rfl t0 (fun H h => h.1) rfl rfl (Nat.le_of_ble_eq_true rfl) (show d - 1 + 1 ≤ d by omega) ?_ ?_ (k_appendTerm (d := d - 1) hB (by omega) t0 t3 h9 h4 hL (gC_c16 hc) (by rw [m3]; exact gC_ge (by omega)) (by rw [m3]; omega)) ?_
  · rw [m3]
    omega
  · rw [m3]
    omega
  rw [m3, c3]
  rw [show [] ++ lt96 l1 ++ sLt 0 ++ lt96 l2 ++ L = (lt96 l1 ++ sLt 0 ++ lt96 l2 ++ L) from rfl]
  refine j_aload_n 0 dX12_banns_79 rfl ?_
  refine c_getR dX12_banns_80 fd_X12_108 t0 h9' ?_
  refine c_callB [] hB dX12_banns_83 cv_X12_387 rfl rfl rfl (Nat.le_of_ble_eq_true rfl) (show d - 1 + 1 ≤ d by omega) (by omega) (by omega) (fun A f ml hX => t_length hB.1 (d - 1) (by omega) hX) ?_
  exact j_ireturn dX12_banns_86 rfl (fun H h => ⟨rfl, _, gC_c16 hc, by rw [ql]; exact gC_ge h34, h⟩) (by omega) (by omega)
theorem k_byteAt {l : Launch} {E : ee} {Γ : ly} {σ : mm} {d : Nat} {x : Int32} {cap : Nat} {T : List Int} (hB : EB E) (hdd : 4 ≤ d) (t0 : tyOK Γ (0, 11) 64) (h9 : σ.2.2 64 16 = some 209) (hT : T.length ≤ cap) (hc : cap ≤ 34) (hb : ∀ j, j < T.length → 0 ≤ T.getD j 0 ∧ T.getD j 0 < 256) : CJ l (ET E) yX12_byteAt cX12_byteAt 2 (some .int) d 0 0 [.ref (E.1.2.1 64), .int x] (BI E Γ σ cap T) (fun v H => v = some (.int (if 0 ≤ x.toInt ∧ x.toInt < T.length then nI (T.getD x.toInt.toNat 0).toNat else -1)) ∧ BI E Γ σ cap T H) := by
  refine CJ.ofWJ hB.ok (by decide) (Nat.le_of_ble_eq_true rfl) ?_
  show WJ l (ET E) yX12_byteAt cX12_byteAt 2 (some .int) d 0 0 (fun v H => v = some (.int (if 0 ≤ x.toInt ∧ x.toInt < T.length then nI (T.getD x.toInt.toNat 0).toNat else -1)) ∧ BI E Γ σ cap T H) 0 0 0 [(0, .ref (E.1.2.1 64)), (1, .int x)] [] (BI E Γ σ cap T)
  refine j_iload_n 1 dX12_byteAt_0 rfl ?_
  refine j_if_lt 26 dX12_byteAt_1 (by decide) (fun h => ?_) (fun h => ?_)
  · refine j_iconst (v := (-1 : Int32)) dX12_byteAt_26 (by decide) ?_
    exact j_ireturn dX12_byteAt_27 rfl (fun H h9 => ⟨by rw [if_neg (fun w => absurd (Int32.lt_iff_toInt_lt.mp h) (by rw [Int32.toInt_zero]; omega))], h9⟩) (Nat.le_refl _) (Nat.le_refl _)
  obtain ⟨j, hj, rfl⟩ := nI_of h
  have ej : (nI j).toInt = (j : Int) := nI_toInt hj
  rw [ej]
  refine j_iload_n 1 dX12_byteAt_4 rfl ?_
  refine j_aload_n 0 dX12_byteAt_5 rfl ?_
  refine c_getR dX12_byteAt_6 fd_X12_108 t0 h9 ?_
  refine c_callB [] hB dX12_byteAt_9 cv_X12_387 rfl rfl rfl (Nat.le_of_ble_eq_true rfl) (show d - 1 + 1 ≤ d by omega) (Nat.le_refl _) (Nat.le_refl _) (fun A f ml hX => t_length hB.1 (d - 1) (by omega) hX) ?_
  refine j_icmp_ge 26 dX12_byteAt_12 (by decide) (fun h2 => ?_) (fun h2 => ?_)
  · refine j_iconst (v := (-1 : Int32)) dX12_byteAt_26 (by decide) ?_
    exact j_ireturn dX12_byteAt_27 rfl (fun H h9 => ⟨by rw [if_neg (fun w => absurd ((nI_leI (by omega) hj).mp h2) (by omega))], h9⟩) (Nat.le_refl _) (Nat.le_refl _)
  have h3 : j < T.length := by
    rcases Nat.lt_or_ge j T.length with h4 | h4
    · exact h4
    · exact absurd ((nI_leI (by omega) hj).mpr h4) h2
  refine j_aload_n 0 dX12_byteAt_15 rfl ?_
  refine c_getR dX12_byteAt_16 fd_X12_108 t0 h9 ?_
  refine j_iload_n 1 dX12_byteAt_19 rfl ?_
  refine c_callB [.int (nI j)] hB dX12_byteAt_20 cv_X12_404 rfl rfl rfl (Nat.le_of_ble_eq_true rfl) (show d - 1 + 1 ≤ d by omega) (Nat.le_refl _) (Nat.le_refl _) (fun A f ml hX => t_charAt hB.1 (d - 1) (by omega) h3 hT hc hb hX) ?_
  refine j_goto 27 dX12_byteAt_23 (by decide) ?_
  exact j_ireturn dX12_byteAt_27 rfl (fun H h9 => ⟨by rw [if_pos (by omega)]; rfl, h9⟩) (Nat.le_refl _) (Nat.le_refl _)
