/-! new GlassVows() -/
def fX12_init (Γ : ly) (σ : mm) (x0 : Nat) : Option (ly × mm) :=
  nwC Γ σ (0, 8) fun γ1 τ2 =>
  bdC (fX8_init γ1 τ2 Γ.1) fun γ6 τ7 =>
  wR τ7 x0 0 Γ.1 fun τ10 =>
  nwC γ6 τ10 (0, 4) fun γ11 τ12 =>
  bdC (fX4_init γ11 τ12 γ6.1) fun γ16 τ17 =>
  wR τ17 x0 1 γ6.1 fun τ20 =>
  nwC γ16 τ20 (0, 4) fun γ21 τ22 =>
  bdC (fX4_init γ21 τ22 γ16.1) fun γ26 τ27 =>
  wR τ27 x0 2 γ16.1 fun τ30 =>
  nwC γ26 τ30 (0, 5) fun γ31 τ32 =>
  gR τ32 x0 0 fun r36 =>
  gR τ32 x0 2 fun r37 =>
  bdC (fX5_init γ31 τ32 γ26.1 r36 r37) fun γ38 τ39 =>
  wR τ39 x0 3 γ26.1 fun τ42 =>
  nwC γ38 τ42 (0, 3) fun γ43 τ44 =>
  gR τ44 x0 1 fun r48 =>
  bdC (fX3_init γ43 τ44 γ38.1 r48) fun γ49 τ50 =>
  wR τ50 x0 4 γ38.1 fun τ53 =>
  nwC γ49 τ53 (0, 3) fun γ54 τ55 =>
  gR τ55 x0 1 fun r59 =>
  bdC (fX3_init γ54 τ55 γ49.1 r59) fun γ60 τ61 =>
  wR τ61 x0 5 γ49.1 fun τ64 =>
  nwC γ60 τ64 (0, 9) fun γ65 τ66 =>
  gR τ66 x0 1 fun r70 =>
  bdC (fX9_init γ65 τ66 γ60.1 r70) fun γ71 τ72 =>
  wR τ72 x0 6 γ60.1 fun τ75 =>
  nwC γ71 τ75 (0, 1) fun γ76 τ77 =>
  gR τ77 x0 1 fun r81 =>
  gR τ77 x0 4 fun r82 =>
  bdC (fX1_init γ76 τ77 γ71.1 r81 r82) fun γ83 τ84 =>
  wR τ84 x0 7 γ71.1 fun τ87 =>
  nwC γ83 τ87 (0, 10) fun γ88 τ89 =>
  gR τ89 x0 7 fun r93 =>
  bdC (fX10_init γ88 τ89 γ83.1 r93) fun γ94 τ95 =>
  wR τ95 x0 8 γ83.1 fun τ98 =>
  nwC γ94 τ98 (0, 6) fun γ99 τ100 =>
  gR τ100 x0 0 fun r104 =>
  gR τ100 x0 1 fun r105 =>
  bdC (fX6_init γ99 τ100 γ94.1 r104 r105) fun γ106 τ107 =>
  wR τ107 x0 9 γ94.1 fun τ110 =>
  nwC γ106 τ110 (0, 7) fun γ111 τ112 =>
  bdC (fX7_init γ111 τ112 γ106.1) fun γ116 τ117 =>
  wR τ117 x0 10 γ106.1 fun τ120 =>
  nwC γ116 τ120 (0, 7) fun γ121 τ122 =>
  bdC (fX7_init γ121 τ122 γ116.1) fun γ126 τ127 =>
  wR τ127 x0 11 γ116.1 fun τ130 =>
  nwC γ126 τ130 (6, 2) fun γ131 τ132 =>
  wR τ132 x0 12 γ126.1 fun τ136 =>
  nwC γ131 τ136 (5, 2) fun γ137 τ138 =>
  wR τ138 x0 13 γ131.1 fun τ142 =>
  nwC γ137 τ142 (7, 2) fun γ143 τ144 =>
  wR τ144 x0 14 γ137.1 fun τ148 =>
  nwC γ143 τ148 (3, 2) fun γ149 τ150 =>
  wR τ150 x0 15 γ143.1 fun τ154 =>
  nwC γ149 τ154 (0, 0) fun γ155 τ156 =>
  bdC (fJ4_init_da8c8 γ155 τ156 γ149.1) fun γ160 τ161 =>
  wR τ161 x0 16 γ149.1 fun τ164 =>
  gR τ164 x0 12 fun r165 =>
  nwC γ160 τ164 (0, 4) fun γ166 τ167 =>
  bdC (fX4_init γ166 τ167 γ160.1) fun γ171 τ172 =>
  stR γ171.2 τ172 r165 (0 : Int32) γ160.1 fun τ175 =>
  gR τ175 x0 13 fun r176 =>
  nwC γ171 τ175 (0, 3) fun γ177 τ178 =>
  gR τ178 x0 1 fun r182 =>
  bdC (fX3_init γ177 τ178 γ171.1 r182) fun γ183 τ184 =>
  stR γ183.2 τ184 r176 (0 : Int32) γ171.1 fun τ187 =>
  gR τ187 x0 14 fun r188 =>
  nwC γ183 τ187 (0, 7) fun γ189 τ190 =>
  bdC (fX7_init γ189 τ190 γ183.1) fun γ194 τ195 =>
  stR γ194.2 τ195 r188 (0 : Int32) γ183.1 fun τ198 =>
  gR τ198 x0 12 fun r199 =>
  nwC γ194 τ198 (0, 4) fun γ200 τ201 =>
  bdC (fX4_init γ200 τ201 γ194.1) fun γ205 τ206 =>
  stR γ205.2 τ206 r199 (1 : Int32) γ194.1 fun τ209 =>
  gR τ209 x0 13 fun r210 =>
  nwC γ205 τ209 (0, 3) fun γ211 τ212 =>
  gR τ212 x0 1 fun r216 =>
  bdC (fX3_init γ211 τ212 γ205.1 r216) fun γ217 τ218 =>
  stR γ217.2 τ218 r210 (1 : Int32) γ205.1 fun τ221 =>
  gR τ221 x0 14 fun r222 =>
  nwC γ217 τ221 (0, 7) fun γ223 τ224 =>
  bdC (fX7_init γ223 τ224 γ217.1) fun γ228 τ229 =>
  stR γ228.2 τ229 r222 (1 : Int32) γ217.1 fun τ232 =>
  some (γ228, τ232)
set_option maxHeartbeats 4000000 in
theorem kX12_init {l : Launch} {G : gg} {Γ : ly} {σ : mm} (d : Nat) (hdd : 3 ≤ d) (hfr : G.1.2.2 = true) (hL : G.1.1 + Γ.1 + 206 ≤ G.1.2.1 + 64) (x0 : Nat) (t0 : tyOK Γ (0, 11) x0) (r : ly × mm) (h : fX12_init Γ σ x0 = some r) : CT l G yX12_init cX12_init 2 none d 206 4579 [.ref (G.2.1 x0)] Γ σ (fun v Γ' σ' => v = none ∧ Γ' = r.1 ∧ σ' = r.2 ∧ Γ'.1 = Γ.1 + 206 ∧ ∀ e b, tyOK Γ e b → tyOK Γ' e b) := by
  refine CT.ofWP (by decide) (Nat.le_of_ble_eq_true rfl) ?_
  show WP l G yX12_init cX12_init 2 none d 206 4579 (fun v Γ' σ' => v = none ∧ Γ' = r.1 ∧ σ' = r.2 ∧ Γ'.1 = Γ.1 + 206 ∧ ∀ e b, tyOK Γ e b → tyOK Γ' e b) 0 0 0 [(0, .ref (G.2.1 x0))] [] Γ σ
  unfold fX12_init at h
  refine r_aload_n 0 dX12_init_0 rfl ?_
  refine r_objInit dX12_init_1 oi_X12_1 oi_i oi_c (by omega) (Nat.le_of_ble_eq_true rfl) ?_
  refine r_aload_n 0 dX12_init_4 rfl ?_
  refine r_new' 11 rfl dX12_init_5 nw_X12_7 hfr (by omega) (by omega) (by omega) h (fun γ1 τ2 q4 gr3 tn5 h => ?_)
  refine r_dup dX12_init_8 rfl ?_
  obtain ⟨γ6, τ7, eγ6, h⟩ := bdC_some h
  refine q_cIN 1 940 [] (g := γ6) (t := τ7) dX12_init_9 ci_X12_9 rfl rfl (Nat.le_of_ble_eq_true rfl) (by omega) (by omega) (by omega) (kX8_init (d - 1) (by omega) hfr (by omega) Γ.1 tn5 (γ6, τ7) eγ6) (fun q9 gr8 => ?_)
  refine q_putFR (e9 := (0, 8)) dX12_init_12 fd_X12_10 rfl (fun C T N q9 => by cases q9; rfl) (Or.inl ⟨_, rfl⟩) (gr8 _ _ (gr3 _ _ t0)) rfl (gr8 _ _ tn5) h (fun τ10 h => ?_)
  refine r_aload_n 0 dX12_init_15 rfl ?_
  refine r_new' 20 rfl dX12_init_16 nw_X12_16 hfr (by omega) (by omega) (by omega) h (fun γ11 τ12 q14 gr13 tn15 h => ?_)
  refine r_dup dX12_init_19 rfl ?_
  obtain ⟨γ16, τ17, eγ16, h⟩ := bdC_some h
  refine q_cIN 17 109 [] (g := γ16) (t := τ17) dX12_init_20 ci_X12_18 rfl rfl (Nat.le_of_ble_eq_true rfl) (by omega) (by omega) (by omega) (kX4_init (d - 1) (by omega) hfr (by omega) γ6.1 tn15 (γ16, τ17) eγ16) (fun q19 gr18 => ?_)
  refine q_putFR (e9 := (0, 4)) dX12_init_23 fd_X12_19 rfl (fun C T N q9 => by cases q9; rfl) (Or.inl ⟨_, rfl⟩) (gr18 _ _ (gr13 _ _ (gr8 _ _ (gr3 _ _ t0)))) rfl (gr18 _ _ tn15) h (fun τ20 h => ?_)
  refine r_aload_n 0 dX12_init_26 rfl ?_
  refine r_new' 20 rfl dX12_init_27 nw_X12_16 hfr (by omega) (by omega) (by omega) h (fun γ21 τ22 q24 gr23 tn25 h => ?_)
  refine r_dup dX12_init_30 rfl ?_
  obtain ⟨γ26, τ27, eγ26, h⟩ := bdC_some h
  refine q_cIN 17 109 [] (g := γ26) (t := τ27) dX12_init_31 ci_X12_18 rfl rfl (Nat.le_of_ble_eq_true rfl) (by omega) (by omega) (by omega) (kX4_init (d - 1) (by omega) hfr (by omega) γ16.1 tn25 (γ26, τ27) eγ26) (fun q29 gr28 => ?_)
  refine q_putFR (e9 := (0, 4)) dX12_init_34 fd_X12_23 rfl (fun C T N q9 => by cases q9; rfl) (Or.inl ⟨_, rfl⟩) (gr28 _ _ (gr23 _ _ (gr18 _ _ (gr13 _ _ (gr8 _ _ (gr3 _ _ t0)))))) rfl (gr28 _ _ tn25) h (fun τ30 h => ?_)
  refine r_aload_n 0 dX12_init_37 rfl ?_
  refine r_new' 4 rfl dX12_init_38 nw_X12_26 hfr (by omega) (by omega) (by omega) h (fun γ31 τ32 q34 gr33 tn35 h => ?_)
  refine r_dup dX12_init_41 rfl ?_
  refine r_aload_n 0 dX12_init_42 rfl ?_
  refine q_getR (e9 := (0, 8)) dX12_init_43 fd_X12_10 (gr33 _ _ (gr28 _ _ (gr23 _ _ (gr18 _ _ (gr13 _ _ (gr8 _ _ (gr3 _ _ t0))))))) rfl h (fun r36 tr36 h => ?_)
  refine r_aload_n 0 dX12_init_46 rfl ?_
  refine q_getR (e9 := (0, 4)) dX12_init_47 fd_X12_23 (gr33 _ _ (gr28 _ _ (gr23 _ _ (gr18 _ _ (gr13 _ _ (gr8 _ _ (gr3 _ _ t0))))))) rfl h (fun r37 tr37 h => ?_)
  obtain ⟨γ38, τ39, eγ38, h⟩ := bdC_some h
  refine q_cI 0 0 [.ref (G.2.1 r36), .ref (G.2.1 r37)] (g := γ38) (t := τ39) dX12_init_50 ci_X12_28 rfl rfl (Nat.le_of_ble_eq_true rfl) (by omega) (by omega) (by omega) (kX5_init (d - 1) (by omega) hfr (by omega) γ26.1 r36 r37 tn35 tr36 tr37 (γ38, τ39) eγ38) (fun q41 gr40 => ?_)
  refine q_putFR (e9 := (0, 5)) dX12_init_53 fd_X12_31 rfl (fun C T N q9 => by cases q9; rfl) (Or.inl ⟨_, rfl⟩) (gr40 _ _ (gr33 _ _ (gr28 _ _ (gr23 _ _ (gr18 _ _ (gr13 _ _ (gr8 _ _ (gr3 _ _ t0)))))))) rfl (gr40 _ _ tn35) h (fun τ42 h => ?_)
  refine r_aload_n 0 dX12_init_56 rfl ?_
  refine r_new' 11 rfl dX12_init_57 nw_X12_35 hfr (by omega) (by omega) (by omega) h (fun γ43 τ44 q46 gr45 tn47 h => ?_)
  refine r_dup dX12_init_60 rfl ?_
  refine r_aload_n 0 dX12_init_61 rfl ?_
  refine q_getR (e9 := (0, 4)) dX12_init_62 fd_X12_19 (gr45 _ _ (gr40 _ _ (gr33 _ _ (gr28 _ _ (gr23 _ _ (gr18 _ _ (gr13 _ _ (gr8 _ _ (gr3 _ _ t0))))))))) rfl h (fun r48 tr48 h => ?_)
  obtain ⟨γ49, τ50, eγ49, h⟩ := bdC_some h
  refine q_cI 7 36 [.ref (G.2.1 r48)] (g := γ49) (t := τ50) dX12_init_65 ci_X12_37 rfl rfl (Nat.le_of_ble_eq_true rfl) (by omega) (by omega) (by omega) (kX3_init (d - 1) (by omega) hfr (by omega) γ38.1 r48 tn47 tr48 (γ49, τ50) eγ49) (fun q52 gr51 => ?_)
  refine q_putFR (e9 := (0, 3)) dX12_init_68 fd_X12_40 rfl (fun C T N q9 => by cases q9; rfl) (Or.inl ⟨_, rfl⟩) (gr51 _ _ (gr45 _ _ (gr40 _ _ (gr33 _ _ (gr28 _ _ (gr23 _ _ (gr18 _ _ (gr13 _ _ (gr8 _ _ (gr3 _ _ t0)))))))))) rfl (gr51 _ _ tn47) h (fun τ53 h => ?_)
  refine r_aload_n 0 dX12_init_71 rfl ?_
  refine r_new' 11 rfl dX12_init_72 nw_X12_35 hfr (by omega) (by omega) (by omega) h (fun γ54 τ55 q57 gr56 tn58 h => ?_)
  refine r_dup dX12_init_75 rfl ?_
  refine r_aload_n 0 dX12_init_76 rfl ?_
  refine q_getR (e9 := (0, 4)) dX12_init_77 fd_X12_19 (gr56 _ _ (gr51 _ _ (gr45 _ _ (gr40 _ _ (gr33 _ _ (gr28 _ _ (gr23 _ _ (gr18 _ _ (gr13 _ _ (gr8 _ _ (gr3 _ _ t0))))))))))) rfl h (fun r59 tr59 h => ?_)
  obtain ⟨γ60, τ61, eγ60, h⟩ := bdC_some h
  refine q_cI 7 36 [.ref (G.2.1 r59)] (g := γ60) (t := τ61) dX12_init_80 ci_X12_37 rfl rfl (Nat.le_of_ble_eq_true rfl) (by omega) (by omega) (by omega) (kX3_init (d - 1) (by omega) hfr (by omega) γ49.1 r59 tn58 tr59 (γ60, τ61) eγ60) (fun q63 gr62 => ?_)
  refine q_putFR (e9 := (0, 3)) dX12_init_83 fd_X12_44 rfl (fun C T N q9 => by cases q9; rfl) (Or.inl ⟨_, rfl⟩) (gr62 _ _ (gr56 _ _ (gr51 _ _ (gr45 _ _ (gr40 _ _ (gr33 _ _ (gr28 _ _ (gr23 _ _ (gr18 _ _ (gr13 _ _ (gr8 _ _ (gr3 _ _ t0)))))))))))) rfl (gr62 _ _ tn58) h (fun τ64 h => ?_)
  refine r_aload_n 0 dX12_init_86 rfl ?_
  refine r_new' 2 rfl dX12_init_87 nw_X12_47 hfr (by omega) (by omega) (by omega) h (fun γ65 τ66 q68 gr67 tn69 h => ?_)
  refine r_dup dX12_init_90 rfl ?_
  refine r_aload_n 0 dX12_init_91 rfl ?_
  refine q_getR (e9 := (0, 4)) dX12_init_92 fd_X12_19 (gr67 _ _ (gr62 _ _ (gr56 _ _ (gr51 _ _ (gr45 _ _ (gr40 _ _ (gr33 _ _ (gr28 _ _ (gr23 _ _ (gr18 _ _ (gr13 _ _ (gr8 _ _ (gr3 _ _ t0))))))))))))) rfl h (fun r70 tr70 h => ?_)
  obtain ⟨γ71, τ72, eγ71, h⟩ := bdC_some h
  refine q_cI 65 384 [.ref (G.2.1 r70)] (g := γ71) (t := τ72) dX12_init_95 ci_X12_49 rfl rfl (Nat.le_of_ble_eq_true rfl) (by omega) (by omega) (by omega) (kX9_init (d - 1) (by omega) hfr (by omega) γ60.1 r70 tn69 tr70 (γ71, τ72) eγ71) (fun q74 gr73 => ?_)
  refine q_putFR (e9 := (0, 9)) dX12_init_98 fd_X12_50 rfl (fun C T N q9 => by cases q9; rfl) (Or.inl ⟨_, rfl⟩) (gr73 _ _ (gr67 _ _ (gr62 _ _ (gr56 _ _ (gr51 _ _ (gr45 _ _ (gr40 _ _ (gr33 _ _ (gr28 _ _ (gr23 _ _ (gr18 _ _ (gr13 _ _ (gr8 _ _ (gr3 _ _ t0)))))))))))))) rfl (gr73 _ _ tn69) h (fun τ75 h => ?_)
  refine r_aload_n 0 dX12_init_101 rfl ?_
  refine r_new' 9 rfl dX12_init_102 nw_X12_54 hfr (by omega) (by omega) (by omega) h (fun γ76 τ77 q79 gr78 tn80 h => ?_)
  refine r_dup dX12_init_105 rfl ?_
  refine r_aload_n 0 dX12_init_106 rfl ?_
  refine q_getR (e9 := (0, 4)) dX12_init_107 fd_X12_19 (gr78 _ _ (gr73 _ _ (gr67 _ _ (gr62 _ _ (gr56 _ _ (gr51 _ _ (gr45 _ _ (gr40 _ _ (gr33 _ _ (gr28 _ _ (gr23 _ _ (gr18 _ _ (gr13 _ _ (gr8 _ _ (gr3 _ _ t0))))))))))))))) rfl h (fun r81 tr81 h => ?_)
  refine r_aload_n 0 dX12_init_110 rfl ?_
  refine q_getR (e9 := (0, 3)) dX12_init_111 fd_X12_40 (gr78 _ _ (gr73 _ _ (gr67 _ _ (gr62 _ _ (gr56 _ _ (gr51 _ _ (gr45 _ _ (gr40 _ _ (gr33 _ _ (gr28 _ _ (gr23 _ _ (gr18 _ _ (gr13 _ _ (gr8 _ _ (gr3 _ _ t0))))))))))))))) rfl h (fun r82 tr82 h => ?_)
  obtain ⟨γ83, τ84, eγ83, h⟩ := bdC_some h
  refine q_cI 2 1200 [.ref (G.2.1 r81), .ref (G.2.1 r82)] (g := γ83) (t := τ84) dX12_init_114 ci_X12_56 rfl rfl (Nat.le_of_ble_eq_true rfl) (by omega) (by omega) (by omega) (kX1_init (d - 1) (by omega) hfr (by omega) γ71.1 r81 r82 tn80 tr81 tr82 (γ83, τ84) eγ83) (fun q86 gr85 => ?_)
  refine q_putFR (e9 := (0, 1)) dX12_init_117 fd_X12_59 rfl (fun C T N q9 => by cases q9; rfl) (Or.inl ⟨_, rfl⟩) (gr85 _ _ (gr78 _ _ (gr73 _ _ (gr67 _ _ (gr62 _ _ (gr56 _ _ (gr51 _ _ (gr45 _ _ (gr40 _ _ (gr33 _ _ (gr28 _ _ (gr23 _ _ (gr18 _ _ (gr13 _ _ (gr8 _ _ (gr3 _ _ t0)))))))))))))))) rfl (gr85 _ _ tn80) h (fun τ87 h => ?_)
  refine r_aload_n 0 dX12_init_120 rfl ?_
  refine r_new' 6 rfl dX12_init_121 nw_X12_63 hfr (by omega) (by omega) (by omega) h (fun γ88 τ89 q91 gr90 tn92 h => ?_)
  refine r_dup dX12_init_124 rfl ?_
  refine r_aload_n 0 dX12_init_125 rfl ?_
  refine q_getR (e9 := (0, 1)) dX12_init_126 fd_X12_59 (gr90 _ _ (gr85 _ _ (gr78 _ _ (gr73 _ _ (gr67 _ _ (gr62 _ _ (gr56 _ _ (gr51 _ _ (gr45 _ _ (gr40 _ _ (gr33 _ _ (gr28 _ _ (gr23 _ _ (gr18 _ _ (gr13 _ _ (gr8 _ _ (gr3 _ _ t0))))))))))))))))) rfl h (fun r93 tr93 h => ?_)
  obtain ⟨γ94, τ95, eγ94, h⟩ := bdC_some h
  refine q_cI 3 660 [.ref (G.2.1 r93)] (g := γ94) (t := τ95) dX12_init_129 ci_X12_65 rfl rfl (Nat.le_of_ble_eq_true rfl) (by omega) (by omega) (by omega) (kX10_init (d - 1) (by omega) hfr (by omega) γ83.1 r93 tn92 tr93 (γ94, τ95) eγ94) (fun q97 gr96 => ?_)
  refine q_putFR (e9 := (0, 10)) dX12_init_132 fd_X12_68 rfl (fun C T N q9 => by cases q9; rfl) (Or.inl ⟨_, rfl⟩) (gr96 _ _ (gr90 _ _ (gr85 _ _ (gr78 _ _ (gr73 _ _ (gr67 _ _ (gr62 _ _ (gr56 _ _ (gr51 _ _ (gr45 _ _ (gr40 _ _ (gr33 _ _ (gr28 _ _ (gr23 _ _ (gr18 _ _ (gr13 _ _ (gr8 _ _ (gr3 _ _ t0)))))))))))))))))) rfl (gr96 _ _ tn92) h (fun τ98 h => ?_)
  refine r_aload_n 0 dX12_init_135 rfl ?_
  refine r_new' 11 rfl dX12_init_136 nw_X12_72 hfr (by omega) (by omega) (by omega) h (fun γ99 τ100 q102 gr101 tn103 h => ?_)
  refine r_dup dX12_init_139 rfl ?_
  refine r_aload_n 0 dX12_init_140 rfl ?_
  refine q_getR (e9 := (0, 8)) dX12_init_141 fd_X12_10 (gr101 _ _ (gr96 _ _ (gr90 _ _ (gr85 _ _ (gr78 _ _ (gr73 _ _ (gr67 _ _ (gr62 _ _ (gr56 _ _ (gr51 _ _ (gr45 _ _ (gr40 _ _ (gr33 _ _ (gr28 _ _ (gr23 _ _ (gr18 _ _ (gr13 _ _ (gr8 _ _ (gr3 _ _ t0))))))))))))))))))) rfl h (fun r104 tr104 h => ?_)
  refine r_aload_n 0 dX12_init_144 rfl ?_
  refine q_getR (e9 := (0, 4)) dX12_init_145 fd_X12_19 (gr101 _ _ (gr96 _ _ (gr90 _ _ (gr85 _ _ (gr78 _ _ (gr73 _ _ (gr67 _ _ (gr62 _ _ (gr56 _ _ (gr51 _ _ (gr45 _ _ (gr40 _ _ (gr33 _ _ (gr28 _ _ (gr23 _ _ (gr18 _ _ (gr13 _ _ (gr8 _ _ (gr3 _ _ t0))))))))))))))))))) rfl h (fun r105 tr105 h => ?_)
  obtain ⟨γ106, τ107, eγ106, h⟩ := bdC_some h
  refine q_cI 3 120 [.ref (G.2.1 r104), .ref (G.2.1 r105)] (g := γ106) (t := τ107) dX12_init_148 ci_X12_74 rfl rfl (Nat.le_of_ble_eq_true rfl) (by omega) (by omega) (by omega) (kX6_init (d - 1) (by omega) hfr (by omega) γ94.1 r104 r105 tn103 tr104 tr105 (γ106, τ107) eγ106) (fun q109 gr108 => ?_)
  refine q_putFR (e9 := (0, 6)) dX12_init_151 fd_X12_75 rfl (fun C T N q9 => by cases q9; rfl) (Or.inl ⟨_, rfl⟩) (gr108 _ _ (gr101 _ _ (gr96 _ _ (gr90 _ _ (gr85 _ _ (gr78 _ _ (gr73 _ _ (gr67 _ _ (gr62 _ _ (gr56 _ _ (gr51 _ _ (gr45 _ _ (gr40 _ _ (gr33 _ _ (gr28 _ _ (gr23 _ _ (gr18 _ _ (gr13 _ _ (gr8 _ _ (gr3 _ _ t0)))))))))))))))))))) rfl (gr108 _ _ tn103) h (fun τ110 h => ?_)
  refine r_aload_n 0 dX12_init_154 rfl ?_
  refine r_new' 5 rfl dX12_init_155 nw_X12_79 hfr (by omega) (by omega) (by omega) h (fun γ111 τ112 q114 gr113 tn115 h => ?_)
  refine r_dup dX12_init_158 rfl ?_
  obtain ⟨γ116, τ117, eγ116, h⟩ := bdC_some h
  refine q_cI 3 120 [] (g := γ116) (t := τ117) dX12_init_159 ci_X12_81 rfl rfl (Nat.le_of_ble_eq_true rfl) (by omega) (by omega) (by omega) (kX7_init (d - 1) (by omega) hfr (by omega) γ106.1 tn115 (γ116, τ117) eγ116) (fun q119 gr118 => ?_)
  refine q_putFR (e9 := (0, 7)) dX12_init_162 fd_X12_82 rfl (fun C T N q9 => by cases q9; rfl) (Or.inl ⟨_, rfl⟩) (gr118 _ _ (gr113 _ _ (gr108 _ _ (gr101 _ _ (gr96 _ _ (gr90 _ _ (gr85 _ _ (gr78 _ _ (gr73 _ _ (gr67 _ _ (gr62 _ _ (gr56 _ _ (gr51 _ _ (gr45 _ _ (gr40 _ _ (gr33 _ _ (gr28 _ _ (gr23 _ _ (gr18 _ _ (gr13 _ _ (gr8 _ _ (gr3 _ _ t0)))))))))))))))))))))) rfl (gr118 _ _ tn115) h (fun τ120 h => ?_)
  refine r_aload_n 0 dX12_init_165 rfl ?_
  refine r_new' 5 rfl dX12_init_166 nw_X12_79 hfr (by omega) (by omega) (by omega) h (fun γ121 τ122 q124 gr123 tn125 h => ?_)
  refine r_dup dX12_init_169 rfl ?_
  obtain ⟨γ126, τ127, eγ126, h⟩ := bdC_some h
  refine q_cI 3 120 [] (g := γ126) (t := τ127) dX12_init_170 ci_X12_81 rfl rfl (Nat.le_of_ble_eq_true rfl) (by omega) (by omega) (by omega) (kX7_init (d - 1) (by omega) hfr (by omega) γ116.1 tn125 (γ126, τ127) eγ126) (fun q129 gr128 => ?_)
  refine q_putFR (e9 := (0, 7)) dX12_init_173 fd_X12_86 rfl (fun C T N q9 => by cases q9; rfl) (Or.inl ⟨_, rfl⟩) (gr128 _ _ (gr123 _ _ (gr118 _ _ (gr113 _ _ (gr108 _ _ (gr101 _ _ (gr96 _ _ (gr90 _ _ (gr85 _ _ (gr78 _ _ (gr73 _ _ (gr67 _ _ (gr62 _ _ (gr56 _ _ (gr51 _ _ (gr45 _ _ (gr40 _ _ (gr33 _ _ (gr28 _ _ (gr23 _ _ (gr18 _ _ (gr13 _ _ (gr8 _ _ (gr3 _ _ t0)))))))))))))))))))))))) rfl (gr128 _ _ tn125) h (fun τ130 h => ?_)
  refine r_aload_n 0 dX12_init_176 rfl ?_
  refine r_iconst (v := 2) dX12_init_177 (by decide) ?_
  refine r_newq6' (N := 2) dX12_init_178 aq_X12_16 hfr (by decide) (by decide) (by decide) (by omega) (by omega) (by omega) h (fun γ131 τ132 q134 gr133 tn135 h => ?_)
  refine q_putFR (e9 := (6, 0)) dX12_init_181 fd_X12_89 rfl (fun C T N q9 => by cases q9; rfl) (Or.inr ⟨_, rfl⟩) (gr133 _ _ (gr128 _ _ (gr123 _ _ (gr118 _ _ (gr113 _ _ (gr108 _ _ (gr101 _ _ (gr96 _ _ (gr90 _ _ (gr85 _ _ (gr78 _ _ (gr73 _ _ (gr67 _ _ (gr62 _ _ (gr56 _ _ (gr51 _ _ (gr45 _ _ (gr40 _ _ (gr33 _ _ (gr28 _ _ (gr23 _ _ (gr18 _ _ (gr13 _ _ (gr8 _ _ (gr3 _ _ t0))))))))))))))))))))))))) rfl tn135 h (fun τ136 h => ?_)
  refine r_aload_n 0 dX12_init_184 rfl ?_
  refine r_iconst (v := 2) dX12_init_185 (by decide) ?_
  refine r_newq5' (N := 2) dX12_init_186 aq_X12_35 hfr (by decide) (by decide) (by decide) (by omega) (by omega) (by omega) h (fun γ137 τ138 q140 gr139 tn141 h => ?_)
  refine q_putFR (e9 := (5, 0)) dX12_init_189 fd_X12_93 rfl (fun C T N q9 => by cases q9; rfl) (Or.inr ⟨_, rfl⟩) (gr139 _ _ (gr133 _ _ (gr128 _ _ (gr123 _ _ (gr118 _ _ (gr113 _ _ (gr108 _ _ (gr101 _ _ (gr96 _ _ (gr90 _ _ (gr85 _ _ (gr78 _ _ (gr73 _ _ (gr67 _ _ (gr62 _ _ (gr56 _ _ (gr51 _ _ (gr45 _ _ (gr40 _ _ (gr33 _ _ (gr28 _ _ (gr23 _ _ (gr18 _ _ (gr13 _ _ (gr8 _ _ (gr3 _ _ t0)))))))))))))))))))))))))) rfl tn141 h (fun τ142 h => ?_)
  refine r_aload_n 0 dX12_init_192 rfl ?_
  refine r_iconst (v := 2) dX12_init_193 (by decide) ?_
  refine r_newq7' (N := 2) dX12_init_194 aq_X12_79 hfr (by decide) (by decide) (by decide) (by omega) (by omega) (by omega) h (fun γ143 τ144 q146 gr145 tn147 h => ?_)
  refine q_putFR (e9 := (7, 0)) dX12_init_197 fd_X12_97 rfl (fun C T N q9 => by cases q9; rfl) (Or.inr ⟨_, rfl⟩) (gr145 _ _ (gr139 _ _ (gr133 _ _ (gr128 _ _ (gr123 _ _ (gr118 _ _ (gr113 _ _ (gr108 _ _ (gr101 _ _ (gr96 _ _ (gr90 _ _ (gr85 _ _ (gr78 _ _ (gr73 _ _ (gr67 _ _ (gr62 _ _ (gr56 _ _ (gr51 _ _ (gr45 _ _ (gr40 _ _ (gr33 _ _ (gr28 _ _ (gr23 _ _ (gr18 _ _ (gr13 _ _ (gr8 _ _ (gr3 _ _ t0))))))))))))))))))))))))))) rfl tn147 h (fun τ148 h => ?_)
  refine r_aload_n 0 dX12_init_200 rfl ?_
  refine r_iconst (v := 2) dX12_init_201 (by decide) ?_
  refine r_newa3' (N := 2) dX12_init_202 ak_3 hfr (by decide) (by decide) (by decide) (by omega) (by omega) (by omega) h (fun γ149 τ150 q152 gr151 tn153 h => ?_)
  refine q_putFR (e9 := (3, 0)) dX12_init_204 fd_X12_101 rfl (fun C T N q9 => by cases q9; rfl) (Or.inr ⟨_, rfl⟩) (gr151 _ _ (gr145 _ _ (gr139 _ _ (gr133 _ _ (gr128 _ _ (gr123 _ _ (gr118 _ _ (gr113 _ _ (gr108 _ _ (gr101 _ _ (gr96 _ _ (gr90 _ _ (gr85 _ _ (gr78 _ _ (gr73 _ _ (gr67 _ _ (gr62 _ _ (gr56 _ _ (gr51 _ _ (gr45 _ _ (gr40 _ _ (gr33 _ _ (gr28 _ _ (gr23 _ _ (gr18 _ _ (gr13 _ _ (gr8 _ _ (gr3 _ _ t0)))))))))))))))))))))))))))) rfl tn153 h (fun τ154 h => ?_)
  refine r_aload_n 0 dX12_init_207 rfl ?_
  refine r_new' 4 rfl dX12_init_208 nw_X12_105 hfr (by omega) (by omega) (by omega) h (fun γ155 τ156 q158 gr157 tn159 h => ?_)
  refine r_dup dX12_init_211 rfl ?_
  obtain ⟨γ160, τ161, eγ160, h⟩ := bdC_some h
  refine q_cI 1 16 [] (g := γ160) (t := τ161) dX12_init_212 ci_X12_107 rfl rfl (Nat.le_of_ble_eq_true rfl) (by omega) (by omega) (by omega) (kJ4_init_da8c8 (d - 1) (by omega) hfr (by omega) γ149.1 tn159 (γ160, τ161) eγ160) (fun q163 gr162 => ?_)
  refine q_putFR (e9 := (101, 0)) dX12_init_215 fd_X12_108 rfl (fun C T N q9 => by cases q9; rfl) (Or.inl ⟨_, rfl⟩) (gr162 _ _ (gr157 _ _ (gr151 _ _ (gr145 _ _ (gr139 _ _ (gr133 _ _ (gr128 _ _ (gr123 _ _ (gr118 _ _ (gr113 _ _ (gr108 _ _ (gr101 _ _ (gr96 _ _ (gr90 _ _ (gr85 _ _ (gr78 _ _ (gr73 _ _ (gr67 _ _ (gr62 _ _ (gr56 _ _ (gr51 _ _ (gr45 _ _ (gr40 _ _ (gr33 _ _ (gr28 _ _ (gr23 _ _ (gr18 _ _ (gr13 _ _ (gr8 _ _ (gr3 _ _ t0)))))))))))))))))))))))))))))) rfl trivial h (fun τ164 h => ?_)
  refine r_iconst (v := 0) dX12_init_218 (by decide) ?_
  refine r_istore_n (lv' := [(1, .int (0 : Int32)), (0, .ref (G.2.1 x0))]) dX12_init_219 (by decide) rfl ?_
  refine r_iload_n 0 dX12_init_220 rfl ?_
  refine r_iconst (v := 2) dX12_init_221 (by decide) ?_
  refine r_geF dX12_init_222 (by decide) ?_
  refine r_aload_n 1 dX12_init_225 rfl ?_
  refine q_getR (e9 := (6, 0)) dX12_init_226 fd_X12_89 (gr162 _ _ (gr157 _ _ (gr151 _ _ (gr145 _ _ (gr139 _ _ (gr133 _ _ (gr128 _ _ (gr123 _ _ (gr118 _ _ (gr113 _ _ (gr108 _ _ (gr101 _ _ (gr96 _ _ (gr90 _ _ (gr85 _ _ (gr78 _ _ (gr73 _ _ (gr67 _ _ (gr62 _ _ (gr56 _ _ (gr51 _ _ (gr45 _ _ (gr40 _ _ (gr33 _ _ (gr28 _ _ (gr23 _ _ (gr18 _ _ (gr13 _ _ (gr8 _ _ (gr3 _ _ t0)))))))))))))))))))))))))))))) rfl h (fun r165 tr165 h => ?_)
  refine r_iload_n 0 dX12_init_229 rfl ?_
  refine r_new' 20 rfl dX12_init_230 nw_X12_16 hfr (by omega) (by omega) (by omega) h (fun γ166 τ167 q169 gr168 tn170 h => ?_)
  refine r_dup dX12_init_233 rfl ?_
  obtain ⟨γ171, τ172, eγ171, h⟩ := bdC_some h
  refine q_cIN 17 109 [] (g := γ171) (t := τ172) dX12_init_234 ci_X12_18 rfl rfl (Nat.le_of_ble_eq_true rfl) (by omega) (by omega) (by omega) (kX4_init (d - 1) (by omega) hfr (by omega) γ160.1 tn170 (γ171, τ172) eγ171) (fun q174 gr173 => ?_)
  refine q_aast6 dX12_init_237 (gr173 _ _ (gr168 _ _ tr165)) (gr173 _ _ tn170) h (fun τ175 h => ?_)
  refine r_aload_n 1 dX12_init_238 rfl ?_
  refine q_getR (e9 := (5, 0)) dX12_init_239 fd_X12_93 (gr173 _ _ (gr168 _ _ (gr162 _ _ (gr157 _ _ (gr151 _ _ (gr145 _ _ (gr139 _ _ (gr133 _ _ (gr128 _ _ (gr123 _ _ (gr118 _ _ (gr113 _ _ (gr108 _ _ (gr101 _ _ (gr96 _ _ (gr90 _ _ (gr85 _ _ (gr78 _ _ (gr73 _ _ (gr67 _ _ (gr62 _ _ (gr56 _ _ (gr51 _ _ (gr45 _ _ (gr40 _ _ (gr33 _ _ (gr28 _ _ (gr23 _ _ (gr18 _ _ (gr13 _ _ (gr8 _ _ (gr3 _ _ t0)))))))))))))))))))))))))))))))) rfl h (fun r176 tr176 h => ?_)
  refine r_iload_n 0 dX12_init_242 rfl ?_
  refine r_new' 11 rfl dX12_init_243 nw_X12_35 hfr (by omega) (by omega) (by omega) h (fun γ177 τ178 q180 gr179 tn181 h => ?_)
  refine r_dup dX12_init_246 rfl ?_
  refine r_aload_n 1 dX12_init_247 rfl ?_
  refine q_getR (e9 := (0, 4)) dX12_init_248 fd_X12_19 (gr179 _ _ (gr173 _ _ (gr168 _ _ (gr162 _ _ (gr157 _ _ (gr151 _ _ (gr145 _ _ (gr139 _ _ (gr133 _ _ (gr128 _ _ (gr123 _ _ (gr118 _ _ (gr113 _ _ (gr108 _ _ (gr101 _ _ (gr96 _ _ (gr90 _ _ (gr85 _ _ (gr78 _ _ (gr73 _ _ (gr67 _ _ (gr62 _ _ (gr56 _ _ (gr51 _ _ (gr45 _ _ (gr40 _ _ (gr33 _ _ (gr28 _ _ (gr23 _ _ (gr18 _ _ (gr13 _ _ (gr8 _ _ (gr3 _ _ t0))))))))))))))))))))))))))))))))) rfl h (fun r182 tr182 h => ?_)
  obtain ⟨γ183, τ184, eγ183, h⟩ := bdC_some h
  refine q_cI 7 36 [.ref (G.2.1 r182)] (g := γ183) (t := τ184) dX12_init_251 ci_X12_37 rfl rfl (Nat.le_of_ble_eq_true rfl) (by omega) (by omega) (by omega) (kX3_init (d - 1) (by omega) hfr (by omega) γ171.1 r182 tn181 tr182 (γ183, τ184) eγ183) (fun q186 gr185 => ?_)
  refine q_aast5 dX12_init_254 (gr185 _ _ (gr179 _ _ tr176)) (gr185 _ _ tn181) h (fun τ187 h => ?_)
  refine r_aload_n 1 dX12_init_255 rfl ?_
  refine q_getR (e9 := (7, 0)) dX12_init_256 fd_X12_97 (gr185 _ _ (gr179 _ _ (gr173 _ _ (gr168 _ _ (gr162 _ _ (gr157 _ _ (gr151 _ _ (gr145 _ _ (gr139 _ _ (gr133 _ _ (gr128 _ _ (gr123 _ _ (gr118 _ _ (gr113 _ _ (gr108 _ _ (gr101 _ _ (gr96 _ _ (gr90 _ _ (gr85 _ _ (gr78 _ _ (gr73 _ _ (gr67 _ _ (gr62 _ _ (gr56 _ _ (gr51 _ _ (gr45 _ _ (gr40 _ _ (gr33 _ _ (gr28 _ _ (gr23 _ _ (gr18 _ _ (gr13 _ _ (gr8 _ _ (gr3 _ _ t0)))))))))))))))))))))))))))))))))) rfl h (fun r188 tr188 h => ?_)
  refine r_iload_n 0 dX12_init_259 rfl ?_
  refine r_new' 5 rfl dX12_init_260 nw_X12_79 hfr (by omega) (by omega) (by omega) h (fun γ189 τ190 q192 gr191 tn193 h => ?_)
  refine r_dup dX12_init_263 rfl ?_
  obtain ⟨γ194, τ195, eγ194, h⟩ := bdC_some h
  refine q_cI 3 120 [] (g := γ194) (t := τ195) dX12_init_264 ci_X12_81 rfl rfl (Nat.le_of_ble_eq_true rfl) (by omega) (by omega) (by omega) (kX7_init (d - 1) (by omega) hfr (by omega) γ183.1 tn193 (γ194, τ195) eγ194) (fun q197 gr196 => ?_)
  refine q_aast7 dX12_init_267 (gr196 _ _ (gr191 _ _ tr188)) (gr196 _ _ tn193) h (fun τ198 h => ?_)
  refine r_iincL (x := 0) (v := 1) (w9 := 1) (lv' := [(1, .int (1 : Int32)), (0, .ref (G.2.1 x0))]) 0 dX12_init_268 rfl (by decide) (by decide) (by decide) rfl ?_
  refine r_goto 220 dX12_init_271 (by decide) ?_
  refine r_iload_n 0 dX12_init_220 rfl ?_
  refine r_iconst (v := 2) dX12_init_221 (by decide) ?_
  refine r_geF dX12_init_222 (by decide) ?_
  refine r_aload_n 1 dX12_init_225 rfl ?_
  refine q_getR (e9 := (6, 0)) dX12_init_226 fd_X12_89 (gr196 _ _ (gr191 _ _ (gr185 _ _ (gr179 _ _ (gr173 _ _ (gr168 _ _ (gr162 _ _ (gr157 _ _ (gr151 _ _ (gr145 _ _ (gr139 _ _ (gr133 _ _ (gr128 _ _ (gr123 _ _ (gr118 _ _ (gr113 _ _ (gr108 _ _ (gr101 _ _ (gr96 _ _ (gr90 _ _ (gr85 _ _ (gr78 _ _ (gr73 _ _ (gr67 _ _ (gr62 _ _ (gr56 _ _ (gr51 _ _ (gr45 _ _ (gr40 _ _ (gr33 _ _ (gr28 _ _ (gr23 _ _ (gr18 _ _ (gr13 _ _ (gr8 _ _ (gr3 _ _ t0)))))))))))))))))))))))))))))))))))) rfl h (fun r199 tr199 h => ?_)
  refine r_iload_n 0 dX12_init_229 rfl ?_
  refine r_new' 20 rfl dX12_init_230 nw_X12_16 hfr (by omega) (by omega) (by omega) h (fun γ200 τ201 q203 gr202 tn204 h => ?_)
  refine r_dup dX12_init_233 rfl ?_
  obtain ⟨γ205, τ206, eγ205, h⟩ := bdC_some h
  refine q_cIN 17 109 [] (g := γ205) (t := τ206) dX12_init_234 ci_X12_18 rfl rfl (Nat.le_of_ble_eq_true rfl) (by omega) (by omega) (by omega) (kX4_init (d - 1) (by omega) hfr (by omega) γ194.1 tn204 (γ205, τ206) eγ205) (fun q208 gr207 => ?_)
  refine q_aast6 dX12_init_237 (gr207 _ _ (gr202 _ _ tr199)) (gr207 _ _ tn204) h (fun τ209 h => ?_)
  refine r_aload_n 1 dX12_init_238 rfl ?_
  refine q_getR (e9 := (5, 0)) dX12_init_239 fd_X12_93 (gr207 _ _ (gr202 _ _ (gr196 _ _ (gr191 _ _ (gr185 _ _ (gr179 _ _ (gr173 _ _ (gr168 _ _ (gr162 _ _ (gr157 _ _ (gr151 _ _ (gr145 _ _ (gr139 _ _ (gr133 _ _ (gr128 _ _ (gr123 _ _ (gr118 _ _ (gr113 _ _ (gr108 _ _ (gr101 _ _ (gr96 _ _ (gr90 _ _ (gr85 _ _ (gr78 _ _ (gr73 _ _ (gr67 _ _ (gr62 _ _ (gr56 _ _ (gr51 _ _ (gr45 _ _ (gr40 _ _ (gr33 _ _ (gr28 _ _ (gr23 _ _ (gr18 _ _ (gr13 _ _ (gr8 _ _ (gr3 _ _ t0)))))))))))))))))))))))))))))))))))))) rfl h (fun r210 tr210 h => ?_)
  refine r_iload_n 0 dX12_init_242 rfl ?_
  refine r_new' 11 rfl dX12_init_243 nw_X12_35 hfr (by omega) (by omega) (by omega) h (fun γ211 τ212 q214 gr213 tn215 h => ?_)
  refine r_dup dX12_init_246 rfl ?_
  refine r_aload_n 1 dX12_init_247 rfl ?_
  refine q_getR (e9 := (0, 4)) dX12_init_248 fd_X12_19 (gr213 _ _ (gr207 _ _ (gr202 _ _ (gr196 _ _ (gr191 _ _ (gr185 _ _ (gr179 _ _ (gr173 _ _ (gr168 _ _ (gr162 _ _ (gr157 _ _ (gr151 _ _ (gr145 _ _ (gr139 _ _ (gr133 _ _ (gr128 _ _ (gr123 _ _ (gr118 _ _ (gr113 _ _ (gr108 _ _ (gr101 _ _ (gr96 _ _ (gr90 _ _ (gr85 _ _ (gr78 _ _ (gr73 _ _ (gr67 _ _ (gr62 _ _ (gr56 _ _ (gr51 _ _ (gr45 _ _ (gr40 _ _ (gr33 _ _ (gr28 _ _ (gr23 _ _ (gr18 _ _ (gr13 _ _ (gr8 _ _ (gr3 _ _ t0))))))))))))))))))))))))))))))))))))))) rfl h (fun r216 tr216 h => ?_)
  obtain ⟨γ217, τ218, eγ217, h⟩ := bdC_some h
  refine q_cI 7 36 [.ref (G.2.1 r216)] (g := γ217) (t := τ218) dX12_init_251 ci_X12_37 rfl rfl (Nat.le_of_ble_eq_true rfl) (by omega) (by omega) (by omega) (kX3_init (d - 1) (by omega) hfr (by omega) γ205.1 r216 tn215 tr216 (γ217, τ218) eγ217) (fun q220 gr219 => ?_)
  refine q_aast5 dX12_init_254 (gr219 _ _ (gr213 _ _ tr210)) (gr219 _ _ tn215) h (fun τ221 h => ?_)
  refine r_aload_n 1 dX12_init_255 rfl ?_
  refine q_getR (e9 := (7, 0)) dX12_init_256 fd_X12_97 (gr219 _ _ (gr213 _ _ (gr207 _ _ (gr202 _ _ (gr196 _ _ (gr191 _ _ (gr185 _ _ (gr179 _ _ (gr173 _ _ (gr168 _ _ (gr162 _ _ (gr157 _ _ (gr151 _ _ (gr145 _ _ (gr139 _ _ (gr133 _ _ (gr128 _ _ (gr123 _ _ (gr118 _ _ (gr113 _ _ (gr108 _ _ (gr101 _ _ (gr96 _ _ (gr90 _ _ (gr85 _ _ (gr78 _ _ (gr73 _ _ (gr67 _ _ (gr62 _ _ (gr56 _ _ (gr51 _ _ (gr45 _ _ (gr40 _ _ (gr33 _ _ (gr28 _ _ (gr23 _ _ (gr18 _ _ (gr13 _ _ (gr8 _ _ (gr3 _ _ t0)))))))))))))))))))))))))))))))))))))))) rfl h (fun r222 tr222 h => ?_)
  refine r_iload_n 0 dX12_init_259 rfl ?_
  refine r_new' 5 rfl dX12_init_260 nw_X12_79 hfr (by omega) (by omega) (by omega) h (fun γ223 τ224 q226 gr225 tn227 h => ?_)
  refine r_dup dX12_init_263 rfl ?_
  obtain ⟨γ228, τ229, eγ228, h⟩ := bdC_some h
  refine q_cI 3 120 [] (g := γ228) (t := τ229) dX12_init_264 ci_X12_81 rfl rfl (Nat.le_of_ble_eq_true rfl) (by omega) (by omega) (by omega) (kX7_init (d - 1) (by omega) hfr (by omega) γ217.1 tn227 (γ228, τ229) eγ228) (fun q231 gr230 => ?_)
  refine q_aast7 dX12_init_267 (gr230 _ _ (gr225 _ _ tr222)) (gr230 _ _ tn227) h (fun τ232 h => ?_)
  refine r_iincL (x := 1) (v := 1) (w9 := 2) (lv' := [(1, .int (2 : Int32)), (0, .ref (G.2.1 x0))]) 0 dX12_init_268 rfl (by decide) (by decide) (by decide) rfl ?_
  refine r_goto 220 dX12_init_271 (by decide) ?_
  refine r_iload_n 0 dX12_init_220 rfl ?_
  refine r_iconst (v := 2) dX12_init_221 (by decide) ?_
  refine r_geT 274 dX12_init_222 (by decide) (by decide) ?_
  obtain rfl := Option.some.inj h
  exact r_return dX12_init_274 rfl ⟨rfl, rfl, rfl, by (try dsimp only); omega, fun e9 b9 q9 => (gr230 _ _ (gr225 _ _ (gr219 _ _ (gr213 _ _ (gr207 _ _ (gr202 _ _ (gr196 _ _ (gr191 _ _ (gr185 _ _ (gr179 _ _ (gr173 _ _ (gr168 _ _ (gr162 _ _ (gr157 _ _ (gr151 _ _ (gr145 _ _ (gr139 _ _ (gr133 _ _ (gr128 _ _ (gr123 _ _ (gr118 _ _ (gr113 _ _ (gr108 _ _ (gr101 _ _ (gr96 _ _ (gr90 _ _ (gr85 _ _ (gr78 _ _ (gr73 _ _ (gr67 _ _ (gr62 _ _ (gr56 _ _ (gr51 _ _ (gr45 _ _ (gr40 _ _ (gr33 _ _ (gr28 _ _ (gr23 _ _ (gr18 _ _ (gr13 _ _ (gr8 _ _ (gr3 _ _ q9))))))))))))))))))))))))))))))))))))))))))⟩ (by omega) (by omega)
