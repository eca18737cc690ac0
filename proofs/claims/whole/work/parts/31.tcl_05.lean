/-! the walks, 5 -/
theorem kX5_readDamp {l : Launch} {G : gg} {Γ : ly} {σ : mm} (d : Nat) (hdd : 3 ≤ d) (x0 : Nat) (t0 : tyOK Γ (0, 5) x0) (r : (Int32 × mm)) (h : fX5_readDamp Γ.2 σ x0 = some r) : CT l G yX5_readDamp cX5_readDamp 2 (some .boolean) d 0 0 [.ref (G.2.1 x0)] Γ σ (PP (some (.int r.1)) Γ r.2) := by
  refine CT.ofWP (by decide) (Nat.le_of_ble_eq_true rfl) ?_
  have hQ : PP (some (.int r.1)) Γ r.2 (some (.int r.1)) Γ r.2 := PP.self
  generalize PP (some (.int r.1)) Γ r.2 = Q at hQ ⊢
  show WP l G yX5_readDamp cX5_readDamp 2 (some .boolean) d 0 0 Q 0 0 0 [(0, .ref (G.2.1 x0))] [] Γ σ
  unfold fX5_readDamp at h
  refine r_aload_n 0 dX5_readDamp_0 rfl ?_
  refine q_getR (e9 := (0, 4)) dX5_readDamp_1 fd_X5_15 t0 rfl h (fun r1 tr1 h => ?_)
  refine r_getI dX5_readDamp_4 fd_X5_177 tr1 ?_
  refine r_bipush (v := 6) dX5_readDamp_7 (by decide) ?_
  refine r_icmp_lt 21 dX5_readDamp_9 (by decide) h (fun _ h => ?_) (fun _ h => ?_)
  · refine r_aload_n 0 dX5_readDamp_21 rfl ?_
    refine q_getR (e9 := (0, 8)) dX5_readDamp_22 fd_X5_9 t0 rfl h (fun r2 tr2 h => ?_)
    refine r_iconst (v := 0) dX5_readDamp_25 (by decide) ?_
    refine r_sipush (v := 599) dX5_readDamp_26 (by decide) ?_
    obtain ⟨v3, τ4, ev3, h⟩ := bd2_some h
    refine q_cVI [.int (0 : Int32), .int (599 : Int32)] dX5_readDamp_29 cv_X5_133 (ci := 8) rfl rfl tr2 rfl rfl (Nat.le_of_ble_eq_true rfl) (by omega) (kX8_takeNumber (d - 1) (by omega) r2 (0 : Int32) (599 : Int32) tr2 (v3, τ4) ev3) ?_
    refine r_if_ne 37 dX5_readDamp_32 (by decide) h (fun _ h => ?_) (fun _ h => ?_)
    · refine r_aload_n 0 dX5_readDamp_37 rfl ?_
      refine q_getR (e9 := (0, 8)) dX5_readDamp_38 fd_X5_9 t0 rfl h (fun r5 tr5 h => ?_)
      refine r_getI dX5_readDamp_41 fd_X5_140 tr5 ?_
      refine q_nmI h (fun v6 h => ?_)
      refine r_istore_n (lv' := [(1, .int v6), (0, .ref (G.2.1 x0))]) dX5_readDamp_44 (by decide) rfl ?_
      refine r_aload_n 1 dX5_readDamp_45 rfl ?_
      refine q_getR (e9 := (0, 8)) dX5_readDamp_46 fd_X5_9 t0 rfl h (fun r7 tr7 h => ?_)
      refine r_iload_n 0 dX5_readDamp_49 rfl ?_
      refine r_sipush (v := 599) dX5_readDamp_50 (by decide) ?_
      obtain ⟨v8, τ9, ev8, h⟩ := bd2_some h
      refine q_cVI [.int v6, .int (599 : Int32)] dX5_readDamp_53 cv_X5_133 (ci := 8) rfl rfl tr7 rfl rfl (Nat.le_of_ble_eq_true rfl) (by omega) (kX8_takeNumber (d - 1) (by omega) r7 v6 (599 : Int32) tr7 (v8, τ9) ev8) ?_
      refine r_if_ne 61 dX5_readDamp_56 (by decide) h (fun _ h => ?_) (fun _ h => ?_)
      · refine r_aload_n 1 dX5_readDamp_61 rfl ?_
        refine q_getR (e9 := (0, 4)) dX5_readDamp_62 fd_X5_15 t0 rfl h (fun r10 tr10 h => ?_)
        refine q_getR (e9 := (1, 0)) dX5_readDamp_65 fd_X5_180 tr10 rfl h (fun r11 tr11 h => ?_)
        refine r_iconst (v := 2) dX5_readDamp_68 (by decide) ?_
        refine r_aload_n 1 dX5_readDamp_69 rfl ?_
        refine q_getR (e9 := (0, 4)) dX5_readDamp_70 fd_X5_15 t0 rfl h (fun r12 tr12 h => ?_)
        refine r_getI dX5_readDamp_73 fd_X5_177 tr12 ?_
        refine r_imul dX5_readDamp_76 ?_
        refine r_iload_n 0 dX5_readDamp_77 rfl ?_
        refine q_iast dX5_readDamp_78 tr11 h (fun τ13 h => ?_)
        refine r_aload_n 1 dX5_readDamp_79 rfl ?_
        refine q_getR (e9 := (0, 4)) dX5_readDamp_80 fd_X5_15 t0 rfl h (fun r14 tr14 h => ?_)
        refine q_getR (e9 := (1, 0)) dX5_readDamp_83 fd_X5_180 tr14 rfl h (fun r15 tr15 h => ?_)
        refine r_iconst (v := 2) dX5_readDamp_86 (by decide) ?_
        refine r_aload_n 1 dX5_readDamp_87 rfl ?_
        refine q_getR (e9 := (0, 4)) dX5_readDamp_88 fd_X5_15 t0 rfl h (fun r16 tr16 h => ?_)
        refine r_getI dX5_readDamp_91 fd_X5_177 tr16 ?_
        refine r_imul dX5_readDamp_94 ?_
        refine r_iconst (v := 1) dX5_readDamp_95 (by decide) ?_
        refine r_iadd dX5_readDamp_96 ?_
        refine r_aload_n 1 dX5_readDamp_97 rfl ?_
        refine q_getR (e9 := (0, 8)) dX5_readDamp_98 fd_X5_9 t0 rfl h (fun r17 tr17 h => ?_)
        refine r_getI dX5_readDamp_101 fd_X5_140 tr17 ?_
        refine q_iast dX5_readDamp_104 tr15 h (fun τ18 h => ?_)
        refine r_aload_n 1 dX5_readDamp_105 rfl ?_
        refine q_getR (e9 := (0, 4)) dX5_readDamp_106 fd_X5_15 t0 rfl h (fun r19 tr19 h => ?_)
        refine r_dup dX5_readDamp_109 rfl ?_
        refine r_getI dX5_readDamp_110 fd_X5_177 tr19 ?_
        refine r_iconst (v := 1) dX5_readDamp_113 (by decide) ?_
        refine r_iadd dX5_readDamp_114 ?_
        refine q_putI dX5_readDamp_115 fd_X5_177 tr19 h (fun τ20 h => ?_)
        refine r_iconst (v := 1) dX5_readDamp_118 (by decide) ?_
        obtain rfl := Option.some.inj h
        exact r_zreturn dX5_readDamp_119 rfl (by decide) hQ (Nat.le_refl _) (Nat.le_refl _)
      · refine r_iconst (v := 0) dX5_readDamp_59 (by decide) ?_
        obtain rfl := Option.some.inj h
        exact r_zreturn dX5_readDamp_60 rfl (by decide) hQ (Nat.le_refl _) (Nat.le_refl _)
    · refine r_iconst (v := 0) dX5_readDamp_35 (by decide) ?_
      obtain rfl := Option.some.inj h
      exact r_zreturn dX5_readDamp_36 rfl (by decide) hQ (Nat.le_refl _) (Nat.le_refl _)
  · refine r_aload_n 0 dX5_readDamp_12 rfl ?_
    refine q_getR (e9 := (0, 8)) dX5_readDamp_13 fd_X5_9 t0 rfl h (fun r21 tr21 h => ?_)
    refine r_iconst (v := 4) dX5_readDamp_16 (by decide) ?_
    obtain ⟨v22, τ23, ev22, h⟩ := bd2_some h
    refine q_cVI [.int (4 : Int32)] dX5_readDamp_17 cv_X5_104 (ci := 8) rfl rfl tr21 rfl rfl (Nat.le_of_ble_eq_true rfl) (by omega) (kX8_fails (d - 1) (by omega) r21 (4 : Int32) tr21 (v22, τ23) ev22) ?_
    obtain ⟨hbz, h⟩ := rZ_some h
    obtain rfl := Option.some.inj h
    exact r_zreturn dX5_readDamp_20 rfl hbz hQ (Nat.le_refl _) (Nat.le_refl _)
theorem kX5_readEarly {l : Launch} {G : gg} {Γ : ly} {σ : mm} (d : Nat) (hdd : 1 ≤ d) (x0 : Nat) (t0 : tyOK Γ (0, 5) x0) (r : (Int32 × mm)) (h : fX5_readEarly Γ.2 σ x0 = some r) : CT l G yX5_readEarly cX5_readEarly 1 (some .boolean) d 0 0 [.ref (G.2.1 x0)] Γ σ (PP (some (.int r.1)) Γ r.2) := by
  refine CT.ofWP (by decide) (Nat.le_of_ble_eq_true rfl) ?_
  have hQ : PP (some (.int r.1)) Γ r.2 (some (.int r.1)) Γ r.2 := PP.self
  generalize PP (some (.int r.1)) Γ r.2 = Q at hQ ⊢
  show WP l G yX5_readEarly cX5_readEarly 1 (some .boolean) d 0 0 Q 0 0 0 [(0, .ref (G.2.1 x0))] [] Γ σ
  unfold fX5_readEarly at h
  refine r_aload_n 0 dX5_readEarly_0 rfl ?_
  refine q_getR (e9 := (0, 4)) dX5_readEarly_1 fd_X5_15 t0 rfl h (fun r1 tr1 h => ?_)
  refine r_getI dX5_readEarly_4 fd_X5_213 tr1 ?_
  refine r_if_eq 19 dX5_readEarly_7 (by decide) h (fun _ h => ?_) (fun _ h => ?_)
  · refine r_aload_n 0 dX5_readEarly_19 rfl ?_
    refine q_getR (e9 := (0, 4)) dX5_readEarly_20 fd_X5_15 t0 rfl h (fun r2 tr2 h => ?_)
    refine r_iconst (v := 1) dX5_readEarly_23 (by decide) ?_
    refine q_putZ dX5_readEarly_24 fd_X5_213 tr2 h (fun τ3 h => ?_)
    refine r_iconst (v := 1) dX5_readEarly_27 (by decide) ?_
    obtain rfl := Option.some.inj h
    exact r_zreturn dX5_readEarly_28 rfl (by decide) hQ (Nat.le_refl _) (Nat.le_refl _)
  · refine r_aload_n 0 dX5_readEarly_10 rfl ?_
    refine q_getR (e9 := (0, 8)) dX5_readEarly_11 fd_X5_9 t0 rfl h (fun r4 tr4 h => ?_)
    refine r_iconst (v := 3) dX5_readEarly_14 (by decide) ?_
    obtain ⟨v5, τ6, ev5, h⟩ := bd2_some h
    refine q_cVI [.int (3 : Int32)] dX5_readEarly_15 cv_X5_104 (ci := 8) rfl rfl tr4 rfl rfl (Nat.le_of_ble_eq_true rfl) (by omega) (kX8_fails (d - 1) (by omega) r4 (3 : Int32) tr4 (v5, τ6) ev5) ?_
    obtain ⟨hbz, h⟩ := rZ_some h
    obtain rfl := Option.some.inj h
    exact r_zreturn dX5_readEarly_18 rfl hbz hQ (Nat.le_refl _) (Nat.le_refl _)
theorem tX5_takePerson_b60 {l : Launch} {G : gg} {Γ : ly} {d : Nat} {Q : Option Value → ly → mm → Prop} (hdd : 2 ≤ d) (σ : mm) (x1 : Int32)    (r : (Int32 × mm)) (h : fX5_takePerson_b60 Γ.2 σ x1 = some r) (hQ : Q (some (.int r.1)) Γ r.2) : WP l G yX5_takePerson cX5_takePerson 2 (some .int) d 0 0 Q 0 0 60 [(1, .int x1)] [] Γ σ := by
  unfold fX5_takePerson_b60 at h
  refine r_iload_n 0 dX5_takePerson_60 rfl ?_
  obtain rfl := Option.some.inj h
  exact r_ireturn dX5_takePerson_61 rfl hQ (Nat.le_refl _) (Nat.le_refl _)
theorem kX5_takePerson {l : Launch} {G : gg} {Γ : ly} {σ : mm} (d : Nat) (hdd : 2 ≤ d) (x0 : Nat) (t0 : tyOK Γ (0, 5) x0) (r : (Int32 × mm)) (h : fX5_takePerson Γ.2 σ x0 = some r) : CT l G yX5_takePerson cX5_takePerson 2 (some .int) d 0 0 [.ref (G.2.1 x0)] Γ σ (PP (some (.int r.1)) Γ r.2) := by
  refine CT.ofWP (by decide) (Nat.le_of_ble_eq_true rfl) ?_
  have hQ : PP (some (.int r.1)) Γ r.2 (some (.int r.1)) Γ r.2 := PP.self
  generalize PP (some (.int r.1)) Γ r.2 = Q at hQ ⊢
  show WP l G yX5_takePerson cX5_takePerson 2 (some .int) d 0 0 Q 0 0 0 [(0, .ref (G.2.1 x0))] [] Γ σ
  unfold fX5_takePerson at h
  refine r_aload_n 0 dX5_takePerson_0 rfl ?_
  refine q_getR (e9 := (0, 8)) dX5_takePerson_1 fd_X5_9 t0 rfl h (fun r1 tr1 h => ?_)
  obtain ⟨τ2, eτ2, h⟩ := bd0_some h
  refine q_cVV [] dX5_takePerson_4 cv_X5_37 (ci := 8) rfl rfl tr1 rfl rfl (Nat.le_of_ble_eq_true rfl) (by omega) (kX8_next (d - 1) (by omega) r1 tr1 τ2 eτ2) ?_
  refine r_aload_n 0 dX5_takePerson_7 rfl ?_
  refine q_getR (e9 := (0, 8)) dX5_takePerson_8 fd_X5_9 t0 rfl h (fun r3 tr3 h => ?_)
  refine q_getR (e9 := (100, 0)) dX5_takePerson_11 fd_X5_60 tr3 rfl h (fun r4 tr4 h => ?_)
  refine r_word 1 dX5_takePerson_14 fw_X5_108 (by decide) ?_
  refine r_acmp_eq 31 dX5_takePerson_17 (by decide) tr4 (tyW (Γ := Γ) (i := 1) (by decide)) h (fun _ h => ?_) (fun _ h => ?_)
  · refine r_aload_n 0 dX5_takePerson_31 rfl ?_
    refine q_getR (e9 := (0, 4)) dX5_takePerson_32 fd_X5_15 t0 rfl h (fun r5 tr5 h => ?_)
    refine r_aload_n 0 dX5_takePerson_35 rfl ?_
    refine q_getR (e9 := (0, 8)) dX5_takePerson_36 fd_X5_9 t0 rfl h (fun r6 tr6 h => ?_)
    refine r_getL dX5_takePerson_39 fd_X5_111 tr6 ?_
    obtain ⟨v7, ev7, h⟩ := bd0_some h
    refine q_cVI [.long (τ2.2.1 r6 7)] dX5_takePerson_42 cv_X5_119 (ci := 4) rfl rfl tr5 rfl rfl (Nat.le_of_ble_eq_true rfl) (by omega) (kX4_personNamed (d - 1) (by omega) r5 (τ2.2.1 r6 7) tr5 v7 ev7) ?_
    refine r_istore_n (lv' := [(1, .int v7), (0, .ref (G.2.1 x0))]) dX5_takePerson_45 (by decide) rfl ?_
    refine r_iload_n 0 dX5_takePerson_46 rfl ?_
    refine r_iconst (v := -1) dX5_takePerson_47 (by decide) ?_
    refine r_icmp_ne 60 dX5_takePerson_48 (by decide) h (fun _ h => ?_) (fun _ h => ?_)
    · refine r_pick [0] rfl ?_
      exact tX5_takePerson_b60 hdd τ2 v7  _ h hQ
    · refine r_aload_n 1 dX5_takePerson_51 rfl ?_
      refine q_getR (e9 := (0, 8)) dX5_takePerson_52 fd_X5_9 t0 rfl h (fun r8 tr8 h => ?_)
      refine r_iconst (v := 3) dX5_takePerson_55 (by decide) ?_
      obtain ⟨v9, τ10, ev9, h⟩ := bd2_some h
      refine q_cVI [.int (3 : Int32)] dX5_takePerson_56 cv_X5_104 (ci := 8) rfl rfl tr8 rfl rfl (Nat.le_of_ble_eq_true rfl) (by omega) (kX8_fails (d - 1) (by omega) r8 (3 : Int32) tr8 (v9, τ10) ev9) ?_
      refine r_pop dX5_takePerson_59 rfl ?_
      refine r_pick [0] rfl ?_
      exact tX5_takePerson_b60 hdd τ10 v7  _ h hQ
  · refine r_aload_n 0 dX5_takePerson_20 rfl ?_
    refine q_getR (e9 := (0, 8)) dX5_takePerson_21 fd_X5_9 t0 rfl h (fun r11 tr11 h => ?_)
    refine r_iconst (v := 1) dX5_takePerson_24 (by decide) ?_
    obtain ⟨v12, τ13, ev12, h⟩ := bd2_some h
    refine q_cVI [.int (1 : Int32)] dX5_takePerson_25 cv_X5_104 (ci := 8) rfl rfl tr11 rfl rfl (Nat.le_of_ble_eq_true rfl) (by omega) (kX8_fails (d - 1) (by omega) r11 (1 : Int32) tr11 (v12, τ13) ev12) ?_
    refine r_pop dX5_takePerson_28 rfl ?_
    refine r_iconst (v := -1) dX5_takePerson_29 (by decide) ?_
    obtain rfl := Option.some.inj h
    exact r_ireturn dX5_takePerson_30 rfl hQ (Nat.le_refl _) (Nat.le_refl _)
theorem tX5_readPair_b62 {l : Launch} {G : gg} {Γ : ly} {d : Nat} {Q : Option Value → ly → mm → Prop} (hdd : 3 ≤ d) (σ : mm) (x0 : Nat)  (t0 : tyOK Γ (0, 5) x0)  (r : (Int32 × mm)) (h : fX5_readPair_b62 Γ.2 σ x0 = some r) (hQ : Q (some (.int r.1)) Γ r.2) : WP l G yX5_readPair cX5_readPair 4 (some .boolean) d 0 0 Q 0 0 62 [(0, .ref (G.2.1 x0))] [] Γ σ := by
  unfold fX5_readPair_b62 at h
  refine r_aload_n 0 dX5_readPair_62 rfl ?_
  refine q_getR (e9 := (0, 8)) dX5_readPair_63 fd_X5_9 t0 rfl h (fun r1 tr1 h => ?_)
  refine r_iconst (v := 3) dX5_readPair_66 (by decide) ?_
  obtain ⟨v2, τ3, ev2, h⟩ := bd2_some h
  refine q_cVI [.int (3 : Int32)] dX5_readPair_67 cv_X5_104 (ci := 8) rfl rfl tr1 rfl rfl (Nat.le_of_ble_eq_true rfl) (by omega) (kX8_fails (d - 1) (by omega) r1 (3 : Int32) tr1 (v2, τ3) ev2) ?_
  obtain ⟨hbz, h⟩ := rZ_some h
  obtain rfl := Option.some.inj h
  exact r_zreturn dX5_readPair_70 rfl hbz hQ (Nat.le_refl _) (Nat.le_refl _)
theorem kX5_readPair {l : Launch} {G : gg} {Γ : ly} {σ : mm} (d : Nat) (hdd : 3 ≤ d) (x0 : Nat) (x1 : Int32) (t0 : tyOK Γ (0, 5) x0) (r : (Int32 × mm)) (h : fX5_readPair Γ.2 σ x0 x1 = some r) : CT l G yX5_readPair cX5_readPair 4 (some .boolean) d 0 0 [.ref (G.2.1 x0), .int x1] Γ σ (PP (some (.int r.1)) Γ r.2) := by
  refine CT.ofWP (by decide) (Nat.le_of_ble_eq_true rfl) ?_
  have hQ : PP (some (.int r.1)) Γ r.2 (some (.int r.1)) Γ r.2 := PP.self
  generalize PP (some (.int r.1)) Γ r.2 = Q at hQ ⊢
  show WP l G yX5_readPair cX5_readPair 4 (some .boolean) d 0 0 Q 0 0 0 [(0, .ref (G.2.1 x0)), (1, .int x1)] [] Γ σ
  unfold fX5_readPair at h
  refine r_aload_n 0 dX5_readPair_0 rfl ?_
  obtain ⟨v1, τ2, ev1, h⟩ := bd2_some h
  refine q_cVI [] dX5_readPair_1 cv_X5_149 (ci := 5) rfl rfl t0 rfl rfl (Nat.le_of_ble_eq_true rfl) (by omega) (kX5_takePerson (d - 1) (by omega) x0 t0 (v1, τ2) ev1) ?_
  refine r_istore_n (lv' := [(2, .int v1), (0, .ref (G.2.1 x0)), (1, .int x1)]) dX5_readPair_4 (by decide) rfl ?_
  refine r_iload_n 0 dX5_readPair_5 rfl ?_
  refine r_iconst (v := -1) dX5_readPair_6 (by decide) ?_
  refine r_icmp_ne 12 dX5_readPair_7 (by decide) h (fun _ h => ?_) (fun _ h => ?_)
  · refine r_aload_n 1 dX5_readPair_12 rfl ?_
    refine q_getR (e9 := (0, 4)) dX5_readPair_13 fd_X5_15 t0 rfl h (fun r3 tr3 h => ?_)
    refine r_iload_n 0 dX5_readPair_16 rfl ?_
    obtain ⟨v4, ev4, h⟩ := bd0_some h
    refine q_cVI [.int v1] dX5_readPair_17 cv_X5_167 (ci := 4) rfl rfl tr3 rfl rfl (Nat.le_of_ble_eq_true rfl) (by omega) (kX4_glassOf (d - 1) (by omega) r3 v1 tr3 v4 ev4) ?_
    refine r_iconst (v := -1) dX5_readPair_20 (by decide) ?_
    refine r_icmp_eq 33 dX5_readPair_21 (by decide) h (fun _ h => ?_) (fun _ h => ?_)
    · refine r_aload_n 1 dX5_readPair_33 rfl ?_
      obtain ⟨v5, τ6, ev5, h⟩ := bd2_some h
      refine q_cVI [] dX5_readPair_34 cv_X5_149 (ci := 5) rfl rfl t0 rfl rfl (Nat.le_of_ble_eq_true rfl) (by omega) (kX5_takePerson (d - 1) (by omega) x0 t0 (v5, τ6) ev5) ?_
      refine r_istore_n (lv' := [(3, .int v5), (2, .int v1), (0, .ref (G.2.1 x0)), (1, .int x1)]) dX5_readPair_37 (by decide) rfl ?_
      refine r_iload_n 0 dX5_readPair_38 rfl ?_
      refine r_iconst (v := -1) dX5_readPair_39 (by decide) ?_
      refine r_icmp_ne 45 dX5_readPair_40 (by decide) h (fun _ h => ?_) (fun _ h => ?_)
      · refine r_iload_n 0 dX5_readPair_45 rfl ?_
        refine r_iload_n 1 dX5_readPair_46 rfl ?_
        refine r_icmp_eq 62 dX5_readPair_47 (by decide) h (fun _ h => ?_) (fun _ h => ?_)
        · refine r_pick [2] rfl ?_
          exact tX5_readPair_b62 hdd τ6 x0 t0 _ h hQ
        · refine r_aload_n 2 dX5_readPair_50 rfl ?_
          refine q_getR (e9 := (0, 4)) dX5_readPair_51 fd_X5_15 t0 rfl h (fun r7 tr7 h => ?_)
          refine r_iload_n 0 dX5_readPair_54 rfl ?_
          obtain ⟨v8, ev8, h⟩ := bd0_some h
          refine q_cVI [.int v5] dX5_readPair_55 cv_X5_167 (ci := 4) rfl rfl tr7 rfl rfl (Nat.le_of_ble_eq_true rfl) (by omega) (kX4_glassOf (d - 1) (by omega) r7 v5 tr7 v8 ev8) ?_
          refine r_iconst (v := -1) dX5_readPair_58 (by decide) ?_
          refine r_icmp_eq 71 dX5_readPair_59 (by decide) h (fun _ h => ?_) (fun _ h => ?_)
          · refine r_aload_n 2 dX5_readPair_71 rfl ?_
            refine q_getR (e9 := (0, 4)) dX5_readPair_72 fd_X5_15 t0 rfl h (fun r9 tr9 h => ?_)
            refine q_getR (e9 := (1, 0)) dX5_readPair_75 fd_X5_171 tr9 rfl h (fun r10 tr10 h => ?_)
            refine r_iload_n 3 dX5_readPair_78 rfl ?_
            refine r_iload_n 1 dX5_readPair_79 rfl ?_
            refine q_iast dX5_readPair_80 tr10 h (fun τ11 h => ?_)
            refine r_aload_n 2 dX5_readPair_81 rfl ?_
            refine q_getR (e9 := (0, 4)) dX5_readPair_82 fd_X5_15 t0 rfl h (fun r12 tr12 h => ?_)
            refine q_getR (e9 := (1, 0)) dX5_readPair_85 fd_X5_174 tr12 rfl h (fun r13 tr13 h => ?_)
            refine r_iload_n 3 dX5_readPair_88 rfl ?_
            refine r_iload_n 0 dX5_readPair_89 rfl ?_
            refine q_iast dX5_readPair_90 tr13 h (fun τ14 h => ?_)
            refine r_iconst (v := 1) dX5_readPair_91 (by decide) ?_
            obtain rfl := Option.some.inj h
            exact r_zreturn dX5_readPair_92 rfl (by decide) hQ (Nat.le_refl _) (Nat.le_refl _)
          · refine r_pick [2] rfl ?_
            exact tX5_readPair_b62 hdd τ6 x0 t0 _ h hQ
      · refine r_iconst (v := 0) dX5_readPair_43 (by decide) ?_
        obtain rfl := Option.some.inj h
        exact r_zreturn dX5_readPair_44 rfl (by decide) hQ (Nat.le_refl _) (Nat.le_refl _)
    · refine r_aload_n 1 dX5_readPair_24 rfl ?_
      refine q_getR (e9 := (0, 8)) dX5_readPair_25 fd_X5_9 t0 rfl h (fun r15 tr15 h => ?_)
      refine r_iconst (v := 3) dX5_readPair_28 (by decide) ?_
      obtain ⟨v16, τ17, ev16, h⟩ := bd2_some h
      refine q_cVI [.int (3 : Int32)] dX5_readPair_29 cv_X5_104 (ci := 8) rfl rfl tr15 rfl rfl (Nat.le_of_ble_eq_true rfl) (by omega) (kX8_fails (d - 1) (by omega) r15 (3 : Int32) tr15 (v16, τ17) ev16) ?_
      obtain ⟨hbz, h⟩ := rZ_some h
      obtain rfl := Option.some.inj h
      exact r_zreturn dX5_readPair_32 rfl hbz hQ (Nat.le_refl _) (Nat.le_refl _)
  · refine r_iconst (v := 0) dX5_readPair_10 (by decide) ?_
    obtain rfl := Option.some.inj h
    exact r_zreturn dX5_readPair_11 rfl (by decide) hQ (Nat.le_refl _) (Nat.le_refl _)
theorem tX5_takeNewName_b62 {l : Launch} {G : gg} {Γ : ly} {d : Nat} {Q : Option Value → ly → mm → Prop} (hdd : 3 ≤ d) (σ : mm)  (s0 : Int32)   (r : (Int32 × mm)) (h : fX5_takeNewName_b62 Γ.2 σ s0 = some r) (hQ : Q (some (.int r.1)) Γ r.2) : WP l G yX5_takeNewName cX5_takeNewName 1 (some .boolean) d 0 0 Q 0 0 62 [] [.int s0] Γ σ := by
  unfold fX5_takeNewName_b62 at h
  obtain ⟨hbz, h⟩ := rZ_some h
  obtain rfl := Option.some.inj h
  exact r_zreturn dX5_takeNewName_62 rfl hbz hQ (Nat.le_refl _) (Nat.le_refl _)
theorem tX5_takeNewName_b57 {l : Launch} {G : gg} {Γ : ly} {d : Nat} {Q : Option Value → ly → mm → Prop} (hdd : 3 ≤ d) (σ : mm)     (r : (Int32 × mm)) (h : fX5_takeNewName_b57 Γ.2 σ  = some r) (hQ : Q (some (.int r.1)) Γ r.2) : WP l G yX5_takeNewName cX5_takeNewName 1 (some .boolean) d 0 0 Q 0 0 57 [] [] Γ σ := by
  unfold fX5_takeNewName_b57 at h
  refine r_iconst (v := 1) dX5_takeNewName_57 (by decide) ?_
  refine r_goto 62 dX5_takeNewName_58 (by decide) ?_
  exact tX5_takeNewName_b62 hdd σ (1 : Int32)  _ h hQ
theorem kX5_takeNewName {l : Launch} {G : gg} {Γ : ly} {σ : mm} (d : Nat) (hdd : 3 ≤ d) (x0 : Nat) (t0 : tyOK Γ (0, 5) x0) (r : (Int32 × mm)) (h : fX5_takeNewName Γ.2 σ x0 = some r) : CT l G yX5_takeNewName cX5_takeNewName 1 (some .boolean) d 0 0 [.ref (G.2.1 x0)] Γ σ (PP (some (.int r.1)) Γ r.2) := by
  refine CT.ofWP (by decide) (Nat.le_of_ble_eq_true rfl) ?_
  have hQ : PP (some (.int r.1)) Γ r.2 (some (.int r.1)) Γ r.2 := PP.self
  generalize PP (some (.int r.1)) Γ r.2 = Q at hQ ⊢
  show WP l G yX5_takeNewName cX5_takeNewName 1 (some .boolean) d 0 0 Q 0 0 0 [(0, .ref (G.2.1 x0))] [] Γ σ
  unfold fX5_takeNewName at h
  refine r_aload_n 0 dX5_takeNewName_0 rfl ?_
  refine q_getR (e9 := (0, 8)) dX5_takeNewName_1 fd_X5_9 t0 rfl h (fun r1 tr1 h => ?_)
  obtain ⟨τ2, eτ2, h⟩ := bd0_some h
  refine q_cVV [] dX5_takeNewName_4 cv_X5_37 (ci := 8) rfl rfl tr1 rfl rfl (Nat.le_of_ble_eq_true rfl) (by omega) (kX8_next (d - 1) (by omega) r1 tr1 τ2 eτ2) ?_
  refine r_aload_n 0 dX5_takeNewName_7 rfl ?_
  refine q_getR (e9 := (0, 8)) dX5_takeNewName_8 fd_X5_9 t0 rfl h (fun r3 tr3 h => ?_)
  refine q_getR (e9 := (100, 0)) dX5_takeNewName_11 fd_X5_60 tr3 rfl h (fun r4 tr4 h => ?_)
  refine r_word 1 dX5_takeNewName_14 fw_X5_108 (by decide) ?_
  refine r_acmp_eq 29 dX5_takeNewName_17 (by decide) tr4 (tyW (Γ := Γ) (i := 1) (by decide)) h (fun _ h => ?_) (fun _ h => ?_)
  · refine r_aload_n 0 dX5_takeNewName_29 rfl ?_
    refine q_getR (e9 := (0, 4)) dX5_takeNewName_30 fd_X5_15 t0 rfl h (fun r5 tr5 h => ?_)
    refine r_aload_n 0 dX5_takeNewName_33 rfl ?_
    refine q_getR (e9 := (0, 8)) dX5_takeNewName_34 fd_X5_9 t0 rfl h (fun r6 tr6 h => ?_)
    refine r_getL dX5_takeNewName_37 fd_X5_111 tr6 ?_
    obtain ⟨v7, ev7, h⟩ := bd0_some h
    refine q_cVI [.long (τ2.2.1 r6 7)] dX5_takeNewName_40 cv_X5_115 (ci := 4) rfl rfl tr5 rfl rfl (Nat.le_of_ble_eq_true rfl) (by omega) (kX4_isTold (d - 1) (by omega) r5 (τ2.2.1 r6 7) tr5 v7 ev7) ?_
    refine r_if_eq 57 dX5_takeNewName_43 (by decide) h (fun _ h => ?_) (fun _ h => ?_)
    · refine r_pick [] rfl ?_
      exact tX5_takeNewName_b57 hdd τ2  _ h hQ
    · refine r_aload_n 0 dX5_takeNewName_46 rfl ?_
      refine q_getR (e9 := (0, 8)) dX5_takeNewName_47 fd_X5_9 t0 rfl h (fun r8 tr8 h => ?_)
      refine r_iconst (v := 3) dX5_takeNewName_50 (by decide) ?_
      obtain ⟨v9, τ10, ev9, h⟩ := bd2_some h
      refine q_cVI [.int (3 : Int32)] dX5_takeNewName_51 cv_X5_104 (ci := 8) rfl rfl tr8 rfl rfl (Nat.le_of_ble_eq_true rfl) (by omega) (kX8_fails (d - 1) (by omega) r8 (3 : Int32) tr8 (v9, τ10) ev9) ?_
      refine r_if_eq 61 dX5_takeNewName_54 (by decide) h (fun _ h => ?_) (fun _ h => ?_)
      · refine r_iconst (v := 0) dX5_takeNewName_61 (by decide) ?_
        refine r_pick [] rfl ?_
        exact tX5_takeNewName_b62 hdd τ10 (0 : Int32)  _ h hQ
      · refine r_pick [] rfl ?_
        exact tX5_takeNewName_b57 hdd τ10  _ h hQ
  · refine r_aload_n 0 dX5_takeNewName_20 rfl ?_
    refine q_getR (e9 := (0, 8)) dX5_takeNewName_21 fd_X5_9 t0 rfl h (fun r11 tr11 h => ?_)
    refine r_iconst (v := 1) dX5_takeNewName_24 (by decide) ?_
    obtain ⟨v12, τ13, ev12, h⟩ := bd2_some h
    refine q_cVI [.int (1 : Int32)] dX5_takeNewName_25 cv_X5_104 (ci := 8) rfl rfl tr11 rfl rfl (Nat.le_of_ble_eq_true rfl) (by omega) (kX8_fails (d - 1) (by omega) r11 (1 : Int32) tr11 (v12, τ13) ev12) ?_
    obtain ⟨hbz, h⟩ := rZ_some h
    obtain rfl := Option.some.inj h
    exact r_zreturn dX5_takeNewName_28 rfl hbz hQ (Nat.le_refl _) (Nat.le_refl _)
theorem tX5_readGlass_b69 {l : Launch} {G : gg} {Γ : ly} {d : Nat} {Q : Option Value → ly → mm → Prop} (hdd : 4 ≤ d) (σ : mm)     (r : (Int32 × mm)) (h : fX5_readGlass_b69 Γ.2 σ  = some r) (hQ : Q (some (.int r.1)) Γ r.2) : WP l G yX5_readGlass cX5_readGlass 2 (some .boolean) d 0 0 Q 0 0 69 [] [] Γ σ := by
  unfold fX5_readGlass_b69 at h
  refine r_iconst (v := 0) dX5_readGlass_69 (by decide) ?_
  obtain rfl := Option.some.inj h
  exact r_zreturn dX5_readGlass_70 rfl (by decide) hQ (Nat.le_refl _) (Nat.le_refl _)
theorem kX5_readGlass {l : Launch} {G : gg} {Γ : ly} {σ : mm} (d : Nat) (hdd : 4 ≤ d) (x0 : Nat) (t0 : tyOK Γ (0, 5) x0) (r : (Int32 × mm)) (h : fX5_readGlass Γ.2 σ x0 = some r) : CT l G yX5_readGlass cX5_readGlass 2 (some .boolean) d 0 0 [.ref (G.2.1 x0)] Γ σ (PP (some (.int r.1)) Γ r.2) := by
  refine CT.ofWP (by decide) (Nat.le_of_ble_eq_true rfl) ?_
  have hQ : PP (some (.int r.1)) Γ r.2 (some (.int r.1)) Γ r.2 := PP.self
  generalize PP (some (.int r.1)) Γ r.2 = Q at hQ ⊢
  show WP l G yX5_readGlass cX5_readGlass 2 (some .boolean) d 0 0 Q 0 0 0 [(0, .ref (G.2.1 x0))] [] Γ σ
  unfold fX5_readGlass at h
  refine r_aload_n 0 dX5_readGlass_0 rfl ?_
  refine q_getR (e9 := (0, 4)) dX5_readGlass_1 fd_X5_15 t0 rfl h (fun r1 tr1 h => ?_)
  refine r_getI dX5_readGlass_4 fd_X5_152 tr1 ?_
  refine q_nmI h (fun v2 h => ?_)
  refine r_istore_n (lv' := [(1, .int v2), (0, .ref (G.2.1 x0))]) dX5_readGlass_7 (by decide) rfl ?_
  refine r_iload_n 0 dX5_readGlass_8 rfl ?_
  refine r_iconst (v := 4) dX5_readGlass_9 (by decide) ?_
  refine r_icmp_lt 22 dX5_readGlass_10 (by decide) h (fun _ h => ?_) (fun _ h => ?_)
  · refine r_aload_n 1 dX5_readGlass_22 rfl ?_
    obtain ⟨v3, τ4, ev3, h⟩ := bd2_some h
    refine q_cVI [] dX5_readGlass_23 cv_X5_126 (ci := 5) rfl rfl t0 rfl rfl (Nat.le_of_ble_eq_true rfl) (by omega) (kX5_takeNewName (d - 1) (by omega) x0 t0 (v3, τ4) ev3) ?_
    refine r_if_ne 31 dX5_readGlass_26 (by decide) h (fun _ h => ?_) (fun _ h => ?_)
    · refine r_aload_n 1 dX5_readGlass_31 rfl ?_
      refine q_getR (e9 := (0, 4)) dX5_readGlass_32 fd_X5_15 t0 rfl h (fun r5 tr5 h => ?_)
      refine q_getR (e9 := (4, 0)) dX5_readGlass_35 fd_X5_155 tr5 rfl h (fun r6 tr6 h => ?_)
      refine r_iload_n 0 dX5_readGlass_38 rfl ?_
      refine r_aload_n 1 dX5_readGlass_39 rfl ?_
      refine q_getR (e9 := (0, 8)) dX5_readGlass_40 fd_X5_9 t0 rfl h (fun r7 tr7 h => ?_)
      refine r_getL dX5_readGlass_43 fd_X5_111 tr7 ?_
      refine q_last dX5_readGlass_46 tr6 h (fun τ8 h => ?_)
      refine r_aload_n 1 dX5_readGlass_47 rfl ?_
      refine r_iload_n 0 dX5_readGlass_48 rfl ?_
      obtain ⟨v9, τ10, ev9, h⟩ := bd2_some h
      refine q_cVI [.int v2] dX5_readGlass_49 cv_X5_158 (ci := 5) rfl rfl t0 rfl rfl (Nat.le_of_ble_eq_true rfl) (by omega) (kX5_readPair (d - 1) (by omega) x0 v2 t0 (v9, τ10) ev9) ?_
      refine r_if_eq 69 dX5_readGlass_52 (by decide) h (fun _ h => ?_) (fun _ h => ?_)
      · refine r_pick [] rfl ?_
        exact tX5_readGlass_b69 hdd τ10  _ h hQ
      · refine r_aload_n 1 dX5_readGlass_55 rfl ?_
        refine q_getR (e9 := (0, 8)) dX5_readGlass_56 fd_X5_9 t0 rfl h (fun r11 tr11 h => ?_)
        refine r_iconst (v := 1) dX5_readGlass_59 (by decide) ?_
        refine r_sipush (v := 250) dX5_readGlass_60 (by decide) ?_
        obtain ⟨v12, τ13, ev12, h⟩ := bd2_some h
        refine q_cVI [.int (1 : Int32), .int (250 : Int32)] dX5_readGlass_63 cv_X5_133 (ci := 8) rfl rfl tr11 rfl rfl (Nat.le_of_ble_eq_true rfl) (by omega) (kX8_takeNumber (d - 1) (by omega) r11 (1 : Int32) (250 : Int32) tr11 (v12, τ13) ev12) ?_
        refine r_if_ne 71 dX5_readGlass_66 (by decide) h (fun _ h => ?_) (fun _ h => ?_)
        · refine r_aload_n 1 dX5_readGlass_71 rfl ?_
          refine q_getR (e9 := (0, 4)) dX5_readGlass_72 fd_X5_15 t0 rfl h (fun r14 tr14 h => ?_)
          refine q_getR (e9 := (1, 0)) dX5_readGlass_75 fd_X5_161 tr14 rfl h (fun r15 tr15 h => ?_)
          refine r_iload_n 0 dX5_readGlass_78 rfl ?_
          refine r_aload_n 1 dX5_readGlass_79 rfl ?_
          refine q_getR (e9 := (0, 8)) dX5_readGlass_80 fd_X5_9 t0 rfl h (fun r16 tr16 h => ?_)
          refine r_getI dX5_readGlass_83 fd_X5_140 tr16 ?_
          refine q_iast dX5_readGlass_86 tr15 h (fun τ17 h => ?_)
          refine r_aload_n 1 dX5_readGlass_87 rfl ?_
          refine q_getR (e9 := (0, 8)) dX5_readGlass_88 fd_X5_9 t0 rfl h (fun r18 tr18 h => ?_)
          refine r_iconst (v := 1) dX5_readGlass_91 (by decide) ?_
          refine r_bipush (v := 9) dX5_readGlass_92 (by decide) ?_
          obtain ⟨v19, τ20, ev19, h⟩ := bd2_some h
          refine q_cVI [.int (1 : Int32), .int (9 : Int32)] dX5_readGlass_94 cv_X5_133 (ci := 8) rfl rfl tr18 rfl rfl (Nat.le_of_ble_eq_true rfl) (by omega) (kX8_takeNumber (d - 1) (by omega) r18 (1 : Int32) (9 : Int32) tr18 (v19, τ20) ev19) ?_
          refine r_if_ne 102 dX5_readGlass_97 (by decide) h (fun _ h => ?_) (fun _ h => ?_)
          · refine r_aload_n 1 dX5_readGlass_102 rfl ?_
            refine q_getR (e9 := (0, 4)) dX5_readGlass_103 fd_X5_15 t0 rfl h (fun r21 tr21 h => ?_)
            refine q_getR (e9 := (1, 0)) dX5_readGlass_106 fd_X5_164 tr21 rfl h (fun r22 tr22 h => ?_)
            refine r_iload_n 0 dX5_readGlass_109 rfl ?_
            refine r_aload_n 1 dX5_readGlass_110 rfl ?_
            refine q_getR (e9 := (0, 8)) dX5_readGlass_111 fd_X5_9 t0 rfl h (fun r23 tr23 h => ?_)
            refine r_getI dX5_readGlass_114 fd_X5_140 tr23 ?_
            refine q_iast dX5_readGlass_117 tr22 h (fun τ24 h => ?_)
            refine r_aload_n 1 dX5_readGlass_118 rfl ?_
            refine q_getR (e9 := (0, 4)) dX5_readGlass_119 fd_X5_15 t0 rfl h (fun r25 tr25 h => ?_)
            refine r_dup dX5_readGlass_122 rfl ?_
            refine r_getI dX5_readGlass_123 fd_X5_152 tr25 ?_
            refine r_iconst (v := 1) dX5_readGlass_126 (by decide) ?_
            refine r_iadd dX5_readGlass_127 ?_
            refine q_putI dX5_readGlass_128 fd_X5_152 tr25 h (fun τ26 h => ?_)
            refine r_iconst (v := 1) dX5_readGlass_131 (by decide) ?_
            obtain rfl := Option.some.inj h
            exact r_zreturn dX5_readGlass_132 rfl (by decide) hQ (Nat.le_refl _) (Nat.le_refl _)
          · refine r_iconst (v := 0) dX5_readGlass_100 (by decide) ?_
            obtain rfl := Option.some.inj h
            exact r_zreturn dX5_readGlass_101 rfl (by decide) hQ (Nat.le_refl _) (Nat.le_refl _)
        · refine r_pick [] rfl ?_
          exact tX5_readGlass_b69 hdd τ13  _ h hQ
    · refine r_iconst (v := 0) dX5_readGlass_29 (by decide) ?_
      obtain rfl := Option.some.inj h
      exact r_zreturn dX5_readGlass_30 rfl (by decide) hQ (Nat.le_refl _) (Nat.le_refl _)
  · refine r_aload_n 1 dX5_readGlass_13 rfl ?_
    refine q_getR (e9 := (0, 8)) dX5_readGlass_14 fd_X5_9 t0 rfl h (fun r27 tr27 h => ?_)
    refine r_iconst (v := 4) dX5_readGlass_17 (by decide) ?_
    obtain ⟨v28, τ29, ev28, h⟩ := bd2_some h
    refine q_cVI [.int (4 : Int32)] dX5_readGlass_18 cv_X5_104 (ci := 8) rfl rfl tr27 rfl rfl (Nat.le_of_ble_eq_true rfl) (by omega) (kX8_fails (d - 1) (by omega) r27 (4 : Int32) tr27 (v28, τ29) ev28) ?_
    obtain ⟨hbz, h⟩ := rZ_some h
    obtain rfl := Option.some.inj h
    exact r_zreturn dX5_readGlass_21 rfl hbz hQ (Nat.le_refl _) (Nat.le_refl _)
theorem kX5_readGood {l : Launch} {G : gg} {Γ : ly} {σ : mm} (d : Nat) (hdd : 4 ≤ d) (x0 : Nat) (t0 : tyOK Γ (0, 5) x0) (r : (Int32 × mm)) (h : fX5_readGood Γ.2 σ x0 = some r) : CT l G yX5_readGood cX5_readGood 2 (some .boolean) d 0 0 [.ref (G.2.1 x0)] Γ σ (PP (some (.int r.1)) Γ r.2) := by
  refine CT.ofWP (by decide) (Nat.le_of_ble_eq_true rfl) ?_
  have hQ : PP (some (.int r.1)) Γ r.2 (some (.int r.1)) Γ r.2 := PP.self
  generalize PP (some (.int r.1)) Γ r.2 = Q at hQ ⊢
  show WP l G yX5_readGood cX5_readGood 2 (some .boolean) d 0 0 Q 0 0 0 [(0, .ref (G.2.1 x0))] [] Γ σ
  unfold fX5_readGood at h
  refine r_aload_n 0 dX5_readGood_0 rfl ?_
  refine q_getR (e9 := (0, 4)) dX5_readGood_1 fd_X5_15 t0 rfl h (fun r1 tr1 h => ?_)
  refine q_getR (e9 := (0, 2)) dX5_readGood_4 fd_X5_183 tr1 rfl h (fun r2 tr2 h => ?_)
  refine r_getI dX5_readGood_7 fd_X5_187 tr2 ?_
  refine q_nmI h (fun v3 h => ?_)
  refine r_istore_n (lv' := [(1, .int v3), (0, .ref (G.2.1 x0))]) dX5_readGood_10 (by decide) rfl ?_
  refine r_iload_n 0 dX5_readGood_11 rfl ?_
  refine r_bipush (v := 6) dX5_readGood_12 (by decide) ?_
  refine r_icmp_lt 26 dX5_readGood_14 (by decide) h (fun _ h => ?_) (fun _ h => ?_)
  · refine r_aload_n 1 dX5_readGood_26 rfl ?_
    obtain ⟨v4, τ5, ev4, h⟩ := bd2_some h
    refine q_cVI [] dX5_readGood_27 cv_X5_126 (ci := 5) rfl rfl t0 rfl rfl (Nat.le_of_ble_eq_true rfl) (by omega) (kX5_takeNewName (d - 1) (by omega) x0 t0 (v4, τ5) ev4) ?_
    refine r_if_ne 35 dX5_readGood_30 (by decide) h (fun _ h => ?_) (fun _ h => ?_)
    · refine r_aload_n 1 dX5_readGood_35 rfl ?_
      refine q_getR (e9 := (0, 4)) dX5_readGood_36 fd_X5_15 t0 rfl h (fun r6 tr6 h => ?_)
      refine q_getR (e9 := (0, 2)) dX5_readGood_39 fd_X5_183 tr6 rfl h (fun r7 tr7 h => ?_)
      refine q_getR (e9 := (4, 0)) dX5_readGood_42 fd_X5_192 tr7 rfl h (fun r8 tr8 h => ?_)
      refine r_iload_n 0 dX5_readGood_45 rfl ?_
      refine r_aload_n 1 dX5_readGood_46 rfl ?_
      refine q_getR (e9 := (0, 8)) dX5_readGood_47 fd_X5_9 t0 rfl h (fun r9 tr9 h => ?_)
      refine r_getL dX5_readGood_50 fd_X5_111 tr9 ?_
      refine q_last dX5_readGood_53 tr8 h (fun τ10 h => ?_)
      refine r_aload_n 1 dX5_readGood_54 rfl ?_
      refine q_getR (e9 := (0, 8)) dX5_readGood_55 fd_X5_9 t0 rfl h (fun r11 tr11 h => ?_)
      obtain ⟨τ12, eτ12, h⟩ := bd0_some h
      refine q_cVV [] dX5_readGood_58 cv_X5_37 (ci := 8) rfl rfl tr11 rfl rfl (Nat.le_of_ble_eq_true rfl) (by omega) (kX8_next (d - 1) (by omega) r11 tr11 τ12 eτ12) ?_
      refine r_aload_n 1 dX5_readGood_61 rfl ?_
      refine q_getR (e9 := (0, 8)) dX5_readGood_62 fd_X5_9 t0 rfl h (fun r13 tr13 h => ?_)
      refine q_getR (e9 := (100, 0)) dX5_readGood_65 fd_X5_60 tr13 rfl h (fun r14 tr14 h => ?_)
      refine r_word 1 dX5_readGood_68 fw_X5_108 (by decide) ?_
      refine r_acmp_eq 83 dX5_readGood_71 (by decide) tr14 (tyW (Γ := Γ) (i := 1) (by decide)) h (fun _ h => ?_) (fun _ h => ?_)
      · refine r_aload_n 1 dX5_readGood_83 rfl ?_
        refine q_getR (e9 := (0, 4)) dX5_readGood_84 fd_X5_15 t0 rfl h (fun r15 tr15 h => ?_)
        refine q_getR (e9 := (0, 2)) dX5_readGood_87 fd_X5_183 tr15 rfl h (fun r16 tr16 h => ?_)
        refine q_getR (e9 := (1, 0)) dX5_readGood_90 fd_X5_195 tr16 rfl h (fun r17 tr17 h => ?_)
        refine r_iload_n 0 dX5_readGood_93 rfl ?_
        refine r_aload_n 1 dX5_readGood_94 rfl ?_
        refine q_getR (e9 := (0, 4)) dX5_readGood_95 fd_X5_15 t0 rfl h (fun r18 tr18 h => ?_)
        refine r_aload_n 1 dX5_readGood_98 rfl ?_
        refine q_getR (e9 := (0, 8)) dX5_readGood_99 fd_X5_9 t0 rfl h (fun r19 tr19 h => ?_)
        refine r_getL dX5_readGood_102 fd_X5_111 tr19 ?_
        obtain ⟨v20, ev20, h⟩ := bd0_some h
        refine q_cVI [.long (τ12.2.1 r19 7)] dX5_readGood_105 cv_X5_198 (ci := 4) rfl rfl tr18 rfl rfl (Nat.le_of_ble_eq_true rfl) (by omega) (kX4_glassNamed (d - 1) (by omega) r18 (τ12.2.1 r19 7) tr18 v20 ev20) ?_
        refine q_iast dX5_readGood_108 tr17 h (fun τ21 h => ?_)
        refine r_aload_n 1 dX5_readGood_109 rfl ?_
        refine q_getR (e9 := (0, 4)) dX5_readGood_110 fd_X5_15 t0 rfl h (fun r22 tr22 h => ?_)
        refine q_getR (e9 := (0, 2)) dX5_readGood_113 fd_X5_183 tr22 rfl h (fun r23 tr23 h => ?_)
        refine q_getR (e9 := (1, 0)) dX5_readGood_116 fd_X5_195 tr23 rfl h (fun r24 tr24 h => ?_)
        refine r_iload_n 0 dX5_readGood_119 rfl ?_
        refine q_iald dX5_readGood_120 tr24 h (fun v25 h => ?_)
        refine r_iconst (v := -1) dX5_readGood_121 (by decide) ?_
        refine r_icmp_ne 134 dX5_readGood_122 (by decide) h (fun _ h => ?_) (fun _ h => ?_)
        · refine r_aload_n 1 dX5_readGood_134 rfl ?_
          refine q_getR (e9 := (0, 8)) dX5_readGood_135 fd_X5_9 t0 rfl h (fun r26 tr26 h => ?_)
          refine r_iconst (v := 0) dX5_readGood_138 (by decide) ?_
          refine r_bipush (v := 99) dX5_readGood_139 (by decide) ?_
          obtain ⟨v27, τ28, ev27, h⟩ := bd2_some h
          refine q_cVI [.int (0 : Int32), .int (99 : Int32)] dX5_readGood_141 cv_X5_133 (ci := 8) rfl rfl tr26 rfl rfl (Nat.le_of_ble_eq_true rfl) (by omega) (kX8_takeNumber (d - 1) (by omega) r26 (0 : Int32) (99 : Int32) tr26 (v27, τ28) ev27) ?_
          refine r_if_ne 149 dX5_readGood_144 (by decide) h (fun _ h => ?_) (fun _ h => ?_)
          · refine r_aload_n 1 dX5_readGood_149 rfl ?_
            refine q_getR (e9 := (0, 4)) dX5_readGood_150 fd_X5_15 t0 rfl h (fun r29 tr29 h => ?_)
            refine q_getR (e9 := (0, 2)) dX5_readGood_153 fd_X5_183 tr29 rfl h (fun r30 tr30 h => ?_)
            refine q_getR (e9 := (1, 0)) dX5_readGood_156 fd_X5_201 tr30 rfl h (fun r31 tr31 h => ?_)
            refine r_iload_n 0 dX5_readGood_159 rfl ?_
            refine r_aload_n 1 dX5_readGood_160 rfl ?_
            refine q_getR (e9 := (0, 8)) dX5_readGood_161 fd_X5_9 t0 rfl h (fun r32 tr32 h => ?_)
            refine r_getI dX5_readGood_164 fd_X5_140 tr32 ?_
            refine q_iast dX5_readGood_167 tr31 h (fun τ33 h => ?_)
            refine r_aload_n 1 dX5_readGood_168 rfl ?_
            refine q_getR (e9 := (0, 8)) dX5_readGood_169 fd_X5_9 t0 rfl h (fun r34 tr34 h => ?_)
            refine r_iconst (v := 0) dX5_readGood_172 (by decide) ?_
            refine r_bipush (v := 99) dX5_readGood_173 (by decide) ?_
            obtain ⟨v35, τ36, ev35, h⟩ := bd2_some h
            refine q_cVI [.int (0 : Int32), .int (99 : Int32)] dX5_readGood_175 cv_X5_133 (ci := 8) rfl rfl tr34 rfl rfl (Nat.le_of_ble_eq_true rfl) (by omega) (kX8_takeNumber (d - 1) (by omega) r34 (0 : Int32) (99 : Int32) tr34 (v35, τ36) ev35) ?_
            refine r_if_ne 183 dX5_readGood_178 (by decide) h (fun _ h => ?_) (fun _ h => ?_)
            · refine r_aload_n 1 dX5_readGood_183 rfl ?_
              refine q_getR (e9 := (0, 4)) dX5_readGood_184 fd_X5_15 t0 rfl h (fun r37 tr37 h => ?_)
              refine q_getR (e9 := (0, 2)) dX5_readGood_187 fd_X5_183 tr37 rfl h (fun r38 tr38 h => ?_)
              refine q_getR (e9 := (1, 0)) dX5_readGood_190 fd_X5_204 tr38 rfl h (fun r39 tr39 h => ?_)
              refine r_iload_n 0 dX5_readGood_193 rfl ?_
              refine r_aload_n 1 dX5_readGood_194 rfl ?_
              refine q_getR (e9 := (0, 8)) dX5_readGood_195 fd_X5_9 t0 rfl h (fun r40 tr40 h => ?_)
              refine r_getI dX5_readGood_198 fd_X5_140 tr40 ?_
              refine q_iast dX5_readGood_201 tr39 h (fun τ41 h => ?_)
              refine r_aload_n 1 dX5_readGood_202 rfl ?_
              refine q_getR (e9 := (0, 4)) dX5_readGood_203 fd_X5_15 t0 rfl h (fun r42 tr42 h => ?_)
              refine q_getR (e9 := (0, 2)) dX5_readGood_206 fd_X5_183 tr42 rfl h (fun r43 tr43 h => ?_)
              refine r_dup dX5_readGood_209 rfl ?_
              refine r_getI dX5_readGood_210 fd_X5_187 tr43 ?_
              refine r_iconst (v := 1) dX5_readGood_213 (by decide) ?_
              refine r_iadd dX5_readGood_214 ?_
              refine q_putI dX5_readGood_215 fd_X5_187 tr43 h (fun τ44 h => ?_)
              refine r_iconst (v := 1) dX5_readGood_218 (by decide) ?_
              obtain rfl := Option.some.inj h
              exact r_zreturn dX5_readGood_219 rfl (by decide) hQ (Nat.le_refl _) (Nat.le_refl _)
            · refine r_iconst (v := 0) dX5_readGood_181 (by decide) ?_
              obtain rfl := Option.some.inj h
              exact r_zreturn dX5_readGood_182 rfl (by decide) hQ (Nat.le_refl _) (Nat.le_refl _)
          · refine r_iconst (v := 0) dX5_readGood_147 (by decide) ?_
            obtain rfl := Option.some.inj h
            exact r_zreturn dX5_readGood_148 rfl (by decide) hQ (Nat.le_refl _) (Nat.le_refl _)
        · refine r_aload_n 1 dX5_readGood_125 rfl ?_
          refine q_getR (e9 := (0, 8)) dX5_readGood_126 fd_X5_9 t0 rfl h (fun r45 tr45 h => ?_)
          refine r_iconst (v := 3) dX5_readGood_129 (by decide) ?_
          obtain ⟨v46, τ47, ev46, h⟩ := bd2_some h
          refine q_cVI [.int (3 : Int32)] dX5_readGood_130 cv_X5_104 (ci := 8) rfl rfl tr45 rfl rfl (Nat.le_of_ble_eq_true rfl) (by omega) (kX8_fails (d - 1) (by omega) r45 (3 : Int32) tr45 (v46, τ47) ev46) ?_
          obtain ⟨hbz, h⟩ := rZ_some h
          obtain rfl := Option.some.inj h
          exact r_zreturn dX5_readGood_133 rfl hbz hQ (Nat.le_refl _) (Nat.le_refl _)
      · refine r_aload_n 1 dX5_readGood_74 rfl ?_
        refine q_getR (e9 := (0, 8)) dX5_readGood_75 fd_X5_9 t0 rfl h (fun r48 tr48 h => ?_)
        refine r_iconst (v := 1) dX5_readGood_78 (by decide) ?_
        obtain ⟨v49, τ50, ev49, h⟩ := bd2_some h
        refine q_cVI [.int (1 : Int32)] dX5_readGood_79 cv_X5_104 (ci := 8) rfl rfl tr48 rfl rfl (Nat.le_of_ble_eq_true rfl) (by omega) (kX8_fails (d - 1) (by omega) r48 (1 : Int32) tr48 (v49, τ50) ev49) ?_
        obtain ⟨hbz, h⟩ := rZ_some h
        obtain rfl := Option.some.inj h
        exact r_zreturn dX5_readGood_82 rfl hbz hQ (Nat.le_refl _) (Nat.le_refl _)
    · refine r_iconst (v := 0) dX5_readGood_33 (by decide) ?_
      obtain rfl := Option.some.inj h
      exact r_zreturn dX5_readGood_34 rfl (by decide) hQ (Nat.le_refl _) (Nat.le_refl _)
  · refine r_aload_n 1 dX5_readGood_17 rfl ?_
    refine q_getR (e9 := (0, 8)) dX5_readGood_18 fd_X5_9 t0 rfl h (fun r51 tr51 h => ?_)
    refine r_iconst (v := 4) dX5_readGood_21 (by decide) ?_
    obtain ⟨v52, τ53, ev52, h⟩ := bd2_some h
    refine q_cVI [.int (4 : Int32)] dX5_readGood_22 cv_X5_104 (ci := 8) rfl rfl tr51 rfl rfl (Nat.le_of_ble_eq_true rfl) (by omega) (kX8_fails (d - 1) (by omega) r51 (4 : Int32) tr51 (v52, τ53) ev52) ?_
    obtain ⟨hbz, h⟩ := rZ_some h
    obtain rfl := Option.some.inj h
    exact r_zreturn dX5_readGood_25 rfl hbz hQ (Nat.le_refl _) (Nat.le_refl _)
theorem kX5_readGrace {l : Launch} {G : gg} {Γ : ly} {σ : mm} (d : Nat) (hdd : 3 ≤ d) (x0 : Nat) (t0 : tyOK Γ (0, 5) x0) (r : (Int32 × mm)) (h : fX5_readGrace Γ.2 σ x0 = some r) : CT l G yX5_readGrace cX5_readGrace 1 (some .boolean) d 0 0 [.ref (G.2.1 x0)] Γ σ (PP (some (.int r.1)) Γ r.2) := by
  refine CT.ofWP (by decide) (Nat.le_of_ble_eq_true rfl) ?_
  have hQ : PP (some (.int r.1)) Γ r.2 (some (.int r.1)) Γ r.2 := PP.self
  generalize PP (some (.int r.1)) Γ r.2 = Q at hQ ⊢
  show WP l G yX5_readGrace cX5_readGrace 1 (some .boolean) d 0 0 Q 0 0 0 [(0, .ref (G.2.1 x0))] [] Γ σ
  unfold fX5_readGrace at h
  refine r_aload_n 0 dX5_readGrace_0 rfl ?_
  refine r_getI dX5_readGrace_1 fd_X5_24 t0 ?_
  refine r_if_eq 16 dX5_readGrace_4 (by decide) h (fun _ h => ?_) (fun _ h => ?_)
  · refine r_aload_n 0 dX5_readGrace_16 rfl ?_
    refine q_getR (e9 := (0, 8)) dX5_readGrace_17 fd_X5_9 t0 rfl h (fun r1 tr1 h => ?_)
    refine r_iconst (v := 1) dX5_readGrace_20 (by decide) ?_
    refine r_bipush (v := 9) dX5_readGrace_21 (by decide) ?_
    obtain ⟨v2, τ3, ev2, h⟩ := bd2_some h
    refine q_cVI [.int (1 : Int32), .int (9 : Int32)] dX5_readGrace_23 cv_X5_133 (ci := 8) rfl rfl tr1 rfl rfl (Nat.le_of_ble_eq_true rfl) (by omega) (kX8_takeNumber (d - 1) (by omega) r1 (1 : Int32) (9 : Int32) tr1 (v2, τ3) ev2) ?_
    refine r_if_ne 31 dX5_readGrace_26 (by decide) h (fun _ h => ?_) (fun _ h => ?_)
    · refine r_aload_n 0 dX5_readGrace_31 rfl ?_
      refine r_iconst (v := 1) dX5_readGrace_32 (by decide) ?_
      refine q_putZ dX5_readGrace_33 fd_X5_24 t0 h (fun τ4 h => ?_)
      refine r_aload_n 0 dX5_readGrace_36 rfl ?_
      refine q_getR (e9 := (0, 4)) dX5_readGrace_37 fd_X5_15 t0 rfl h (fun r5 tr5 h => ?_)
      refine r_aload_n 0 dX5_readGrace_40 rfl ?_
      refine q_getR (e9 := (0, 8)) dX5_readGrace_41 fd_X5_9 t0 rfl h (fun r6 tr6 h => ?_)
      refine r_getI dX5_readGrace_44 fd_X5_140 tr6 ?_
      refine q_putI dX5_readGrace_47 fd_X5_207 tr5 h (fun τ7 h => ?_)
      refine r_iconst (v := 1) dX5_readGrace_50 (by decide) ?_
      obtain rfl := Option.some.inj h
      exact r_zreturn dX5_readGrace_51 rfl (by decide) hQ (Nat.le_refl _) (Nat.le_refl _)
    · refine r_iconst (v := 0) dX5_readGrace_29 (by decide) ?_
      obtain rfl := Option.some.inj h
      exact r_zreturn dX5_readGrace_30 rfl (by decide) hQ (Nat.le_refl _) (Nat.le_refl _)
  · refine r_aload_n 0 dX5_readGrace_7 rfl ?_
    refine q_getR (e9 := (0, 8)) dX5_readGrace_8 fd_X5_9 t0 rfl h (fun r8 tr8 h => ?_)
    refine r_iconst (v := 3) dX5_readGrace_11 (by decide) ?_
    obtain ⟨v9, τ10, ev9, h⟩ := bd2_some h
    refine q_cVI [.int (3 : Int32)] dX5_readGrace_12 cv_X5_104 (ci := 8) rfl rfl tr8 rfl rfl (Nat.le_of_ble_eq_true rfl) (by omega) (kX8_fails (d - 1) (by omega) r8 (3 : Int32) tr8 (v9, τ10) ev9) ?_
    obtain ⟨hbz, h⟩ := rZ_some h
    obtain rfl := Option.some.inj h
    exact r_zreturn dX5_readGrace_15 rfl hbz hQ (Nat.le_refl _) (Nat.le_refl _)
theorem kX5_readLevel {l : Launch} {G : gg} {Γ : ly} {σ : mm} (d : Nat) (hdd : 1 ≤ d) (x0 : Nat) (t0 : tyOK Γ (0, 5) x0) (r : (Int32 × mm)) (h : fX5_readLevel Γ.2 σ x0 = some r) : CT l G yX5_readLevel cX5_readLevel 1 (some .boolean) d 0 0 [.ref (G.2.1 x0)] Γ σ (PP (some (.int r.1)) Γ r.2) := by
  refine CT.ofWP (by decide) (Nat.le_of_ble_eq_true rfl) ?_
  have hQ : PP (some (.int r.1)) Γ r.2 (some (.int r.1)) Γ r.2 := PP.self
  generalize PP (some (.int r.1)) Γ r.2 = Q at hQ ⊢
  show WP l G yX5_readLevel cX5_readLevel 1 (some .boolean) d 0 0 Q 0 0 0 [(0, .ref (G.2.1 x0))] [] Γ σ
  unfold fX5_readLevel at h
  refine r_aload_n 0 dX5_readLevel_0 rfl ?_
  refine q_getR (e9 := (0, 4)) dX5_readLevel_1 fd_X5_15 t0 rfl h (fun r1 tr1 h => ?_)
  refine r_getI dX5_readLevel_4 fd_X5_216 tr1 ?_
  refine r_if_eq 19 dX5_readLevel_7 (by decide) h (fun _ h => ?_) (fun _ h => ?_)
  · refine r_aload_n 0 dX5_readLevel_19 rfl ?_
    refine q_getR (e9 := (0, 4)) dX5_readLevel_20 fd_X5_15 t0 rfl h (fun r2 tr2 h => ?_)
    refine r_iconst (v := 1) dX5_readLevel_23 (by decide) ?_
    refine q_putZ dX5_readLevel_24 fd_X5_216 tr2 h (fun τ3 h => ?_)
    refine r_iconst (v := 1) dX5_readLevel_27 (by decide) ?_
    obtain rfl := Option.some.inj h
    exact r_zreturn dX5_readLevel_28 rfl (by decide) hQ (Nat.le_refl _) (Nat.le_refl _)
  · refine r_aload_n 0 dX5_readLevel_10 rfl ?_
    refine q_getR (e9 := (0, 8)) dX5_readLevel_11 fd_X5_9 t0 rfl h (fun r4 tr4 h => ?_)
    refine r_iconst (v := 3) dX5_readLevel_14 (by decide) ?_
    obtain ⟨v5, τ6, ev5, h⟩ := bd2_some h
    refine q_cVI [.int (3 : Int32)] dX5_readLevel_15 cv_X5_104 (ci := 8) rfl rfl tr4 rfl rfl (Nat.le_of_ble_eq_true rfl) (by omega) (kX8_fails (d - 1) (by omega) r4 (3 : Int32) tr4 (v5, τ6) ev5) ?_
    obtain ⟨hbz, h⟩ := rZ_some h
    obtain rfl := Option.some.inj h
    exact r_zreturn dX5_readLevel_18 rfl hbz hQ (Nat.le_refl _) (Nat.le_refl _)
theorem kX5_readPerson {l : Launch} {G : gg} {Γ : ly} {σ : mm} (d : Nat) (hdd : 4 ≤ d) (x0 : Nat) (t0 : tyOK Γ (0, 5) x0) (r : (Int32 × mm)) (h : fX5_readPerson Γ.2 σ x0 = some r) : CT l G yX5_readPerson cX5_readPerson 2 (some .boolean) d 0 0 [.ref (G.2.1 x0)] Γ σ (PP (some (.int r.1)) Γ r.2) := by
  refine CT.ofWP (by decide) (Nat.le_of_ble_eq_true rfl) ?_
  have hQ : PP (some (.int r.1)) Γ r.2 (some (.int r.1)) Γ r.2 := PP.self
  generalize PP (some (.int r.1)) Γ r.2 = Q at hQ ⊢
  show WP l G yX5_readPerson cX5_readPerson 2 (some .boolean) d 0 0 Q 0 0 0 [(0, .ref (G.2.1 x0))] [] Γ σ
  unfold fX5_readPerson at h
  refine r_aload_n 0 dX5_readPerson_0 rfl ?_
  refine q_getR (e9 := (0, 4)) dX5_readPerson_1 fd_X5_15 t0 rfl h (fun r1 tr1 h => ?_)
  refine r_getI dX5_readPerson_4 fd_X5_123 tr1 ?_
  refine q_nmI h (fun v2 h => ?_)
  refine r_istore_n (lv' := [(1, .int v2), (0, .ref (G.2.1 x0))]) dX5_readPerson_7 (by decide) rfl ?_
  refine r_iload_n 0 dX5_readPerson_8 rfl ?_
  refine r_bipush (v := 8) dX5_readPerson_9 (by decide) ?_
  refine r_icmp_lt 23 dX5_readPerson_11 (by decide) h (fun _ h => ?_) (fun _ h => ?_)
  · refine r_aload_n 1 dX5_readPerson_23 rfl ?_
    obtain ⟨v3, τ4, ev3, h⟩ := bd2_some h
    refine q_cVI [] dX5_readPerson_24 cv_X5_126 (ci := 5) rfl rfl t0 rfl rfl (Nat.le_of_ble_eq_true rfl) (by omega) (kX5_takeNewName (d - 1) (by omega) x0 t0 (v3, τ4) ev3) ?_
    refine r_if_ne 32 dX5_readPerson_27 (by decide) h (fun _ h => ?_) (fun _ h => ?_)
    · refine r_aload_n 1 dX5_readPerson_32 rfl ?_
      refine q_getR (e9 := (0, 4)) dX5_readPerson_33 fd_X5_15 t0 rfl h (fun r5 tr5 h => ?_)
      refine q_getR (e9 := (4, 0)) dX5_readPerson_36 fd_X5_129 tr5 rfl h (fun r6 tr6 h => ?_)
      refine r_iload_n 0 dX5_readPerson_39 rfl ?_
      refine r_aload_n 1 dX5_readPerson_40 rfl ?_
      refine q_getR (e9 := (0, 8)) dX5_readPerson_41 fd_X5_9 t0 rfl h (fun r7 tr7 h => ?_)
      refine r_getL dX5_readPerson_44 fd_X5_111 tr7 ?_
      refine q_last dX5_readPerson_47 tr6 h (fun τ8 h => ?_)
      refine r_aload_n 1 dX5_readPerson_48 rfl ?_
      refine q_getR (e9 := (0, 8)) dX5_readPerson_49 fd_X5_9 t0 rfl h (fun r9 tr9 h => ?_)
      refine r_iconst (v := 0) dX5_readPerson_52 (by decide) ?_
      refine r_bipush (v := 23) dX5_readPerson_53 (by decide) ?_
      obtain ⟨v10, τ11, ev10, h⟩ := bd2_some h
      refine q_cVI [.int (0 : Int32), .int (23 : Int32)] dX5_readPerson_55 cv_X5_133 (ci := 8) rfl rfl tr9 rfl rfl (Nat.le_of_ble_eq_true rfl) (by omega) (kX8_takeNumber (d - 1) (by omega) r9 (0 : Int32) (23 : Int32) tr9 (v10, τ11) ev10) ?_
      refine r_if_ne 63 dX5_readPerson_58 (by decide) h (fun _ h => ?_) (fun _ h => ?_)
      · refine r_aload_n 1 dX5_readPerson_63 rfl ?_
        refine q_getR (e9 := (0, 4)) dX5_readPerson_64 fd_X5_15 t0 rfl h (fun r12 tr12 h => ?_)
        refine q_getR (e9 := (1, 0)) dX5_readPerson_67 fd_X5_137 tr12 rfl h (fun r13 tr13 h => ?_)
        refine r_iload_n 0 dX5_readPerson_70 rfl ?_
        refine r_aload_n 1 dX5_readPerson_71 rfl ?_
        refine q_getR (e9 := (0, 8)) dX5_readPerson_72 fd_X5_9 t0 rfl h (fun r14 tr14 h => ?_)
        refine r_getI dX5_readPerson_75 fd_X5_140 tr14 ?_
        refine q_iast dX5_readPerson_78 tr13 h (fun τ15 h => ?_)
        refine r_aload_n 1 dX5_readPerson_79 rfl ?_
        refine q_getR (e9 := (0, 8)) dX5_readPerson_80 fd_X5_9 t0 rfl h (fun r16 tr16 h => ?_)
        refine r_iconst (v := 0) dX5_readPerson_83 (by decide) ?_
        refine r_bipush (v := 23) dX5_readPerson_84 (by decide) ?_
        obtain ⟨v17, τ18, ev17, h⟩ := bd2_some h
        refine q_cVI [.int (0 : Int32), .int (23 : Int32)] dX5_readPerson_86 cv_X5_133 (ci := 8) rfl rfl tr16 rfl rfl (Nat.le_of_ble_eq_true rfl) (by omega) (kX8_takeNumber (d - 1) (by omega) r16 (0 : Int32) (23 : Int32) tr16 (v17, τ18) ev17) ?_
        refine r_if_ne 94 dX5_readPerson_89 (by decide) h (fun _ h => ?_) (fun _ h => ?_)
        · refine r_aload_n 1 dX5_readPerson_94 rfl ?_
          refine q_getR (e9 := (0, 4)) dX5_readPerson_95 fd_X5_15 t0 rfl h (fun r19 tr19 h => ?_)
          refine q_getR (e9 := (1, 0)) dX5_readPerson_98 fd_X5_143 tr19 rfl h (fun r20 tr20 h => ?_)
          refine r_iload_n 0 dX5_readPerson_101 rfl ?_
          refine r_aload_n 1 dX5_readPerson_102 rfl ?_
          refine q_getR (e9 := (0, 8)) dX5_readPerson_103 fd_X5_9 t0 rfl h (fun r21 tr21 h => ?_)
          refine r_getI dX5_readPerson_106 fd_X5_140 tr21 ?_
          refine q_iast dX5_readPerson_109 tr20 h (fun τ22 h => ?_)
          refine r_aload_n 1 dX5_readPerson_110 rfl ?_
          refine q_getR (e9 := (0, 8)) dX5_readPerson_111 fd_X5_9 t0 rfl h (fun r23 tr23 h => ?_)
          refine r_iconst (v := 0) dX5_readPerson_114 (by decide) ?_
          refine r_bipush (v := 99) dX5_readPerson_115 (by decide) ?_
          obtain ⟨v24, τ25, ev24, h⟩ := bd2_some h
          refine q_cVI [.int (0 : Int32), .int (99 : Int32)] dX5_readPerson_117 cv_X5_133 (ci := 8) rfl rfl tr23 rfl rfl (Nat.le_of_ble_eq_true rfl) (by omega) (kX8_takeNumber (d - 1) (by omega) r23 (0 : Int32) (99 : Int32) tr23 (v24, τ25) ev24) ?_
          refine r_if_ne 125 dX5_readPerson_120 (by decide) h (fun _ h => ?_) (fun _ h => ?_)
          · refine r_aload_n 1 dX5_readPerson_125 rfl ?_
            refine q_getR (e9 := (0, 4)) dX5_readPerson_126 fd_X5_15 t0 rfl h (fun r26 tr26 h => ?_)
            refine q_getR (e9 := (1, 0)) dX5_readPerson_129 fd_X5_146 tr26 rfl h (fun r27 tr27 h => ?_)
            refine r_iload_n 0 dX5_readPerson_132 rfl ?_
            refine r_aload_n 1 dX5_readPerson_133 rfl ?_
            refine q_getR (e9 := (0, 8)) dX5_readPerson_134 fd_X5_9 t0 rfl h (fun r28 tr28 h => ?_)
            refine r_getI dX5_readPerson_137 fd_X5_140 tr28 ?_
            refine q_iast dX5_readPerson_140 tr27 h (fun τ29 h => ?_)
            refine r_aload_n 1 dX5_readPerson_141 rfl ?_
            refine q_getR (e9 := (0, 4)) dX5_readPerson_142 fd_X5_15 t0 rfl h (fun r30 tr30 h => ?_)
            refine q_getR (e9 := (1, 0)) dX5_readPerson_145 fd_X5_73 tr30 rfl h (fun r31 tr31 h => ?_)
            refine r_iload_n 0 dX5_readPerson_148 rfl ?_
            refine r_iconst (v := 0) dX5_readPerson_149 (by decide) ?_
            refine q_iast dX5_readPerson_150 tr31 h (fun τ32 h => ?_)
            refine r_aload_n 1 dX5_readPerson_151 rfl ?_
            refine q_getR (e9 := (0, 4)) dX5_readPerson_152 fd_X5_15 t0 rfl h (fun r33 tr33 h => ?_)
            refine q_getR (e9 := (1, 0)) dX5_readPerson_155 fd_X5_80 tr33 rfl h (fun r34 tr34 h => ?_)
            refine r_iload_n 0 dX5_readPerson_158 rfl ?_
            refine r_iconst (v := 0) dX5_readPerson_159 (by decide) ?_
            refine q_iast dX5_readPerson_160 tr34 h (fun τ35 h => ?_)
            refine r_aload_n 1 dX5_readPerson_161 rfl ?_
            refine q_getR (e9 := (0, 4)) dX5_readPerson_162 fd_X5_15 t0 rfl h (fun r36 tr36 h => ?_)
            refine r_dup dX5_readPerson_165 rfl ?_
            refine r_getI dX5_readPerson_166 fd_X5_123 tr36 ?_
            refine r_iconst (v := 1) dX5_readPerson_169 (by decide) ?_
            refine r_iadd dX5_readPerson_170 ?_
            refine q_putI dX5_readPerson_171 fd_X5_123 tr36 h (fun τ37 h => ?_)
            refine r_iconst (v := 1) dX5_readPerson_174 (by decide) ?_
            obtain rfl := Option.some.inj h
            exact r_zreturn dX5_readPerson_175 rfl (by decide) hQ (Nat.le_refl _) (Nat.le_refl _)
          · refine r_iconst (v := 0) dX5_readPerson_123 (by decide) ?_
            obtain rfl := Option.some.inj h
            exact r_zreturn dX5_readPerson_124 rfl (by decide) hQ (Nat.le_refl _) (Nat.le_refl _)
        · refine r_iconst (v := 0) dX5_readPerson_92 (by decide) ?_
          obtain rfl := Option.some.inj h
          exact r_zreturn dX5_readPerson_93 rfl (by decide) hQ (Nat.le_refl _) (Nat.le_refl _)
      · refine r_iconst (v := 0) dX5_readPerson_61 (by decide) ?_
        obtain rfl := Option.some.inj h
        exact r_zreturn dX5_readPerson_62 rfl (by decide) hQ (Nat.le_refl _) (Nat.le_refl _)
    · refine r_iconst (v := 0) dX5_readPerson_30 (by decide) ?_
      obtain rfl := Option.some.inj h
      exact r_zreturn dX5_readPerson_31 rfl (by decide) hQ (Nat.le_refl _) (Nat.le_refl _)
  · refine r_aload_n 1 dX5_readPerson_14 rfl ?_
    refine q_getR (e9 := (0, 8)) dX5_readPerson_15 fd_X5_9 t0 rfl h (fun r38 tr38 h => ?_)
    refine r_iconst (v := 4) dX5_readPerson_18 (by decide) ?_
    obtain ⟨v39, τ40, ev39, h⟩ := bd2_some h
    refine q_cVI [.int (4 : Int32)] dX5_readPerson_19 cv_X5_104 (ci := 8) rfl rfl tr38 rfl rfl (Nat.le_of_ble_eq_true rfl) (by omega) (kX8_fails (d - 1) (by omega) r38 (4 : Int32) tr38 (v39, τ40) ev39) ?_
    obtain ⟨hbz, h⟩ := rZ_some h
    obtain rfl := Option.some.inj h
    exact r_zreturn dX5_readPerson_22 rfl hbz hQ (Nat.le_refl _) (Nat.le_refl _)
theorem kX5_readWarmth {l : Launch} {G : gg} {Γ : ly} {σ : mm} (d : Nat) (hdd : 3 ≤ d) (x0 : Nat) (x1 : Nat) (t0 : tyOK Γ (0, 5) x0) (t1 : tyOK Γ (1, 0) x1) (r : (Int32 × mm)) (h : fX5_readWarmth Γ.2 σ x0 x1 = some r) : CT l G yX5_readWarmth cX5_readWarmth 3 (some .boolean) d 0 0 [.ref (G.2.1 x0), .ref (G.2.1 x1)] Γ σ (PP (some (.int r.1)) Γ r.2) := by
  refine CT.ofWP (by decide) (Nat.le_of_ble_eq_true rfl) ?_
  have hQ : PP (some (.int r.1)) Γ r.2 (some (.int r.1)) Γ r.2 := PP.self
  generalize PP (some (.int r.1)) Γ r.2 = Q at hQ ⊢
  show WP l G yX5_readWarmth cX5_readWarmth 3 (some .boolean) d 0 0 Q 0 0 0 [(0, .ref (G.2.1 x0)), (1, .ref (G.2.1 x1))] [] Γ σ
  unfold fX5_readWarmth at h
  refine r_aload_n 0 dX5_readWarmth_0 rfl ?_
  obtain ⟨v1, τ2, ev1, h⟩ := bd2_some h
  refine q_cVI [] dX5_readWarmth_1 cv_X5_149 (ci := 5) rfl rfl t0 rfl rfl (Nat.le_of_ble_eq_true rfl) (by omega) (kX5_takePerson (d - 1) (by omega) x0 t0 (v1, τ2) ev1) ?_
  refine r_istore_n (lv' := [(2, .int v1), (0, .ref (G.2.1 x0)), (1, .ref (G.2.1 x1))]) dX5_readWarmth_4 (by decide) rfl ?_
  refine r_iload_n 0 dX5_readWarmth_5 rfl ?_
  refine r_iconst (v := -1) dX5_readWarmth_6 (by decide) ?_
  refine r_icmp_ne 12 dX5_readWarmth_7 (by decide) h (fun _ h => ?_) (fun _ h => ?_)
  · refine r_aload_n 2 dX5_readWarmth_12 rfl ?_
    refine r_iload_n 0 dX5_readWarmth_13 rfl ?_
    refine q_iald dX5_readWarmth_14 t1 h (fun v3 h => ?_)
    refine r_if_eq 27 dX5_readWarmth_15 (by decide) h (fun _ h => ?_) (fun _ h => ?_)
    · refine r_aload_n 1 dX5_readWarmth_27 rfl ?_
      refine q_getR (e9 := (0, 8)) dX5_readWarmth_28 fd_X5_9 t0 rfl h (fun r4 tr4 h => ?_)
      refine r_iconst (v := 1) dX5_readWarmth_31 (by decide) ?_
      refine r_bipush (v := 9) dX5_readWarmth_32 (by decide) ?_
      obtain ⟨v5, τ6, ev5, h⟩ := bd2_some h
      refine q_cVI [.int (1 : Int32), .int (9 : Int32)] dX5_readWarmth_34 cv_X5_133 (ci := 8) rfl rfl tr4 rfl rfl (Nat.le_of_ble_eq_true rfl) (by omega) (kX8_takeNumber (d - 1) (by omega) r4 (1 : Int32) (9 : Int32) tr4 (v5, τ6) ev5) ?_
      refine r_if_ne 42 dX5_readWarmth_37 (by decide) h (fun _ h => ?_) (fun _ h => ?_)
      · refine r_aload_n 2 dX5_readWarmth_42 rfl ?_
        refine r_iload_n 0 dX5_readWarmth_43 rfl ?_
        refine r_aload_n 1 dX5_readWarmth_44 rfl ?_
        refine q_getR (e9 := (0, 8)) dX5_readWarmth_45 fd_X5_9 t0 rfl h (fun r7 tr7 h => ?_)
        refine r_getI dX5_readWarmth_48 fd_X5_140 tr7 ?_
        refine q_iast dX5_readWarmth_51 t1 h (fun τ8 h => ?_)
        refine r_iconst (v := 1) dX5_readWarmth_52 (by decide) ?_
        obtain rfl := Option.some.inj h
        exact r_zreturn dX5_readWarmth_53 rfl (by decide) hQ (Nat.le_refl _) (Nat.le_refl _)
      · refine r_iconst (v := 0) dX5_readWarmth_40 (by decide) ?_
        obtain rfl := Option.some.inj h
        exact r_zreturn dX5_readWarmth_41 rfl (by decide) hQ (Nat.le_refl _) (Nat.le_refl _)
    · refine r_aload_n 1 dX5_readWarmth_18 rfl ?_
      refine q_getR (e9 := (0, 8)) dX5_readWarmth_19 fd_X5_9 t0 rfl h (fun r9 tr9 h => ?_)
      refine r_iconst (v := 3) dX5_readWarmth_22 (by decide) ?_
      obtain ⟨v10, τ11, ev10, h⟩ := bd2_some h
      refine q_cVI [.int (3 : Int32)] dX5_readWarmth_23 cv_X5_104 (ci := 8) rfl rfl tr9 rfl rfl (Nat.le_of_ble_eq_true rfl) (by omega) (kX8_fails (d - 1) (by omega) r9 (3 : Int32) tr9 (v10, τ11) ev10) ?_
      obtain ⟨hbz, h⟩ := rZ_some h
      obtain rfl := Option.some.inj h
      exact r_zreturn dX5_readWarmth_26 rfl hbz hQ (Nat.le_refl _) (Nat.le_refl _)
  · refine r_iconst (v := 0) dX5_readWarmth_10 (by decide) ?_
    obtain rfl := Option.some.inj h
    exact r_zreturn dX5_readWarmth_11 rfl (by decide) hQ (Nat.le_refl _) (Nat.le_refl _)
