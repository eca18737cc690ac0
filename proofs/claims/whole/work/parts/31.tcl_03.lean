/-! the walks, 3 -/
theorem kX3_turnOver {l : Launch} {G : gg} {Γ : ly} {σ : mm} (d : Nat) (hdd : 1 ≤ d) (x0 : Nat) (x1 : Int32) (x2 : Int32) (t0 : tyOK Γ (0, 3) x0) (r : mm) (h : fX3_turnOver Γ.2 σ x0 x1 x2 = some r) : CT l G yX3_turnOver cX3_turnOver 3 (none) d 0 0 [.ref (G.2.1 x0), .int x1, .int x2] Γ σ (PP none Γ r) := by
  refine CT.ofWP (by decide) (Nat.le_of_ble_eq_true rfl) ?_
  have hQ : PP none Γ r none Γ r := PP.self
  generalize PP none Γ r = Q at hQ ⊢
  show WP l G yX3_turnOver cX3_turnOver 3 (none) d 0 0 Q 0 0 0 [(0, .ref (G.2.1 x0)), (1, .int x1), (2, .int x2)] [] Γ σ
  unfold fX3_turnOver at h
  refine r_aload_n 0 dX3_turnOver_0 rfl ?_
  refine q_getR (e9 := (0, 4)) dX3_turnOver_1 fd_X3_33 t0 rfl h (fun r1 tr1 h => ?_)
  refine r_iload_n 1 dX3_turnOver_4 rfl ?_
  obtain ⟨v2, ev2, h⟩ := bd0_some h
  refine q_cVI [.int x1] dX3_turnOver_5 cv_X3_112 (ci := 4) rfl rfl tr1 rfl rfl (Nat.le_of_ble_eq_true rfl) (by omega) (kX4_hasGlass (d - 1) (by omega) r1 x1 tr1 v2 ev2) ?_
  refine r_if_ne 12 dX3_turnOver_8 (by decide) h (fun _ h => ?_) (fun _ h => ?_)
  · refine r_aload_n 0 dX3_turnOver_12 rfl ?_
    refine q_getR (e9 := (1, 0)) dX3_turnOver_13 fd_X3_18 t0 rfl h (fun r3 tr3 h => ?_)
    refine r_iload_n 1 dX3_turnOver_16 rfl ?_
    refine r_aload_n 0 dX3_turnOver_17 rfl ?_
    refine q_getR (e9 := (0, 4)) dX3_turnOver_18 fd_X3_33 t0 rfl h (fun r4 tr4 h => ?_)
    refine q_getR (e9 := (1, 0)) dX3_turnOver_21 fd_X3_58 tr4 rfl h (fun r5 tr5 h => ?_)
    refine r_iload_n 1 dX3_turnOver_24 rfl ?_
    refine q_iald dX3_turnOver_25 tr5 h (fun v6 h => ?_)
    refine r_aload_n 0 dX3_turnOver_26 rfl ?_
    refine q_getR (e9 := (1, 0)) dX3_turnOver_27 fd_X3_18 t0 rfl h (fun r7 tr7 h => ?_)
    refine r_iload_n 1 dX3_turnOver_30 rfl ?_
    refine q_iald dX3_turnOver_31 tr7 h (fun v8 h => ?_)
    refine r_isub dX3_turnOver_32 ?_
    refine q_iast dX3_turnOver_33 tr3 h (fun τ9 h => ?_)
    refine r_aload_n 0 dX3_turnOver_34 rfl ?_
    refine q_getR (e9 := (1, 0)) dX3_turnOver_35 fd_X3_27 t0 rfl h (fun r10 tr10 h => ?_)
    refine r_iload_n 1 dX3_turnOver_38 rfl ?_
    refine r_iconst (v := 0) dX3_turnOver_39 (by decide) ?_
    refine q_iast dX3_turnOver_40 tr10 h (fun τ11 h => ?_)
    refine r_aload_n 0 dX3_turnOver_41 rfl ?_
    refine q_getR (e9 := (1, 0)) dX3_turnOver_42 fd_X3_15 t0 rfl h (fun r12 tr12 h => ?_)
    refine r_iload_n 2 dX3_turnOver_45 rfl ?_
    refine r_dup2 dX3_turnOver_46 rfl rfl ?_
    refine q_iald dX3_turnOver_47 tr12 h (fun v13 h => ?_)
    refine r_iconst (v := 1) dX3_turnOver_48 (by decide) ?_
    refine r_iadd dX3_turnOver_49 ?_
    refine q_iast dX3_turnOver_50 tr12 h (fun τ14 h => ?_)
    refine r_aload_n 0 dX3_turnOver_51 rfl ?_
    refine q_getR (e9 := (1, 0)) dX3_turnOver_52 fd_X3_30 t0 rfl h (fun r15 tr15 h => ?_)
    refine r_iload_n 1 dX3_turnOver_55 rfl ?_
    refine r_dup2 dX3_turnOver_56 rfl rfl ?_
    refine q_iald dX3_turnOver_57 tr15 h (fun v16 h => ?_)
    refine r_iconst (v := 1) dX3_turnOver_58 (by decide) ?_
    refine r_iadd dX3_turnOver_59 ?_
    refine q_iast dX3_turnOver_60 tr15 h (fun τ17 h => ?_)
    obtain rfl := Option.some.inj h
    exact r_return dX3_turnOver_61 rfl hQ (Nat.le_refl _) (Nat.le_refl _)
  · obtain rfl := Option.some.inj h
    exact r_return dX3_turnOver_11 rfl hQ (Nat.le_refl _) (Nat.le_refl _)
theorem tX4_otherOf_b41 {l : Launch} {G : gg} {Γ : ly} {d : Nat} {Q : Option Value → ly → mm → Prop} (hdd : 1 ≤ d) (σ : mm)  (s0 : Int32)   (r : Int32) (h : fX4_otherOf_b41 Γ.2 σ s0 = some r) (hQ : Q (some (.int r)) Γ σ) : WP l G yX4_otherOf cX4_otherOf 3 (some .int) d 0 0 Q 0 0 41 [] [.int s0] Γ σ := by
  unfold fX4_otherOf_b41 at h
  obtain rfl := Option.some.inj h
  exact r_ireturn dX4_otherOf_41 rfl hQ (Nat.le_refl _) (Nat.le_refl _)
theorem kX4_otherOf {l : Launch} {G : gg} {Γ : ly} {σ : mm} (d : Nat) (hdd : 1 ≤ d) (x0 : Nat) (x1 : Int32) (t0 : tyOK Γ (0, 4) x0) (r : Int32) (h : fX4_otherOf Γ.2 σ x0 x1 = some r) : CT l G yX4_otherOf cX4_otherOf 3 (some .int) d 0 0 [.ref (G.2.1 x0), .int x1] Γ σ (PP (some (.int r)) Γ σ) := by
  refine CT.ofWP (by decide) (Nat.le_of_ble_eq_true rfl) ?_
  have hQ : PP (some (.int r)) Γ σ (some (.int r)) Γ σ := PP.self
  generalize PP (some (.int r)) Γ σ = Q at hQ ⊢
  show WP l G yX4_otherOf cX4_otherOf 3 (some .int) d 0 0 Q 0 0 0 [(0, .ref (G.2.1 x0)), (1, .int x1)] [] Γ σ
  unfold fX4_otherOf at h
  refine r_aload_n 0 dX4_otherOf_0 rfl ?_
  refine r_iload_n 1 dX4_otherOf_1 rfl ?_
  obtain ⟨v1, ev1, h⟩ := bd0_some h
  refine q_cVI [.int x1] dX4_otherOf_2 cv_X4_106 (ci := 4) rfl rfl t0 rfl rfl (Nat.le_of_ble_eq_true rfl) (by omega) (kX4_glassOf (d - 1) (by omega) x0 x1 t0 v1 ev1) ?_
  refine r_istore_n (lv' := [(2, .int v1), (0, .ref (G.2.1 x0)), (1, .int x1)]) dX4_otherOf_5 (by decide) rfl ?_
  refine r_aload_n 1 dX4_otherOf_6 rfl ?_
  refine r_iload_n 0 dX4_otherOf_7 rfl ?_
  obtain ⟨v2, ev2, h⟩ := bd0_some h
  refine q_cVI [.int v1] dX4_otherOf_8 cv_X4_110 (ci := 4) rfl rfl t0 rfl rfl (Nat.le_of_ble_eq_true rfl) (by omega) (kX4_hasGlass (d - 1) (by omega) x0 v1 t0 v2 ev2) ?_
  refine r_if_ne 16 dX4_otherOf_11 (by decide) h (fun _ h => ?_) (fun _ h => ?_)
  · refine r_aload_n 1 dX4_otherOf_16 rfl ?_
    refine q_getR (e9 := (1, 0)) dX4_otherOf_17 fd_X4_34 t0 rfl h (fun r3 tr3 h => ?_)
    refine r_iload_n 0 dX4_otherOf_20 rfl ?_
    refine q_iald dX4_otherOf_21 tr3 h (fun v4 h => ?_)
    refine r_iload_n 2 dX4_otherOf_22 rfl ?_
    refine r_icmp_ne 35 dX4_otherOf_23 (by decide) h (fun _ h => ?_) (fun _ h => ?_)
    · refine r_aload_n 1 dX4_otherOf_35 rfl ?_
      refine q_getR (e9 := (1, 0)) dX4_otherOf_36 fd_X4_34 t0 rfl h (fun r5 tr5 h => ?_)
      refine r_iload_n 0 dX4_otherOf_39 rfl ?_
      refine q_iald dX4_otherOf_40 tr5 h (fun v6 h => ?_)
      refine r_pick [] rfl ?_
      exact tX4_otherOf_b41 hdd σ v6  _ h hQ
    · refine r_aload_n 1 dX4_otherOf_26 rfl ?_
      refine q_getR (e9 := (1, 0)) dX4_otherOf_27 fd_X4_37 t0 rfl h (fun r7 tr7 h => ?_)
      refine r_iload_n 0 dX4_otherOf_30 rfl ?_
      refine q_iald dX4_otherOf_31 tr7 h (fun v8 h => ?_)
      refine r_goto 41 dX4_otherOf_32 (by decide) ?_
      refine r_pick [] rfl ?_
      exact tX4_otherOf_b41 hdd σ v8  _ h hQ
  · refine r_iconst (v := -1) dX4_otherOf_14 (by decide) ?_
    obtain rfl := Option.some.inj h
    exact r_ireturn dX4_otherOf_15 rfl hQ (Nat.le_refl _) (Nat.le_refl _)
theorem tX3_carryOut_b123 {l : Launch} {G : gg} {Γ : ly} {d : Nat} {Q : Option Value → ly → mm → Prop} (hdd : 2 ≤ d) (σ : mm)     (r : mm) (h : fX3_carryOut_b123 Γ.2 σ  = some r) (hQ : Q none Γ r) : WP l G yX3_carryOut cX3_carryOut 4 (none) d 0 0 Q 0 0 123 [] [] Γ σ := by
  unfold fX3_carryOut_b123 at h
  obtain rfl := Option.some.inj h
  exact r_return dX3_carryOut_123 rfl hQ (Nat.le_refl _) (Nat.le_refl _)
theorem kX3_carryOut {l : Launch} {G : gg} {Γ : ly} {σ : mm} (d : Nat) (hdd : 2 ≤ d) (x0 : Nat) (x1 : Int32) (x2 : Int32) (x3 : Int32) (t0 : tyOK Γ (0, 3) x0) (r : mm) (h : fX3_carryOut Γ.2 σ x0 x1 x2 x3 = some r) : CT l G yX3_carryOut cX3_carryOut 4 (none) d 0 0 [.ref (G.2.1 x0), .int x1, .int x2, .int x3] Γ σ (PP none Γ r) := by
  refine CT.ofWP (by decide) (Nat.le_of_ble_eq_true rfl) ?_
  have hQ : PP none Γ r none Γ r := PP.self
  generalize PP none Γ r = Q at hQ ⊢
  show WP l G yX3_carryOut cX3_carryOut 4 (none) d 0 0 Q 0 0 0 [(0, .ref (G.2.1 x0)), (1, .int x1), (2, .int x2), (3, .int x3)] [] Γ σ
  unfold fX3_carryOut at h
  refine r_iload_n 1 dX3_carryOut_0 rfl ?_
  rcases if_split h with ⟨q9, h⟩ | ⟨n0, h⟩
  · refine r_table (0 : Int32) 39 40 dX3_carryOut_1 q9 (by decide) (by decide) rfl (by decide) ?_
    refine r_aload_n 0 dX3_carryOut_40 rfl ?_
    refine r_aload_n 0 dX3_carryOut_41 rfl ?_
    refine q_getR (e9 := (0, 4)) dX3_carryOut_42 fd_X3_33 t0 rfl h (fun r1 tr1 h => ?_)
    refine r_iload_n 2 dX3_carryOut_45 rfl ?_
    obtain ⟨v2, ev2, h⟩ := bd0_some h
    refine q_cVI [.int x2] dX3_carryOut_46 cv_X3_109 (ci := 4) rfl rfl tr1 rfl rfl (Nat.le_of_ble_eq_true rfl) (by omega) (kX4_glassOf (d - 1) (by omega) r1 x2 tr1 v2 ev2) ?_
    refine r_iload_n 2 dX3_carryOut_49 rfl ?_
    obtain ⟨τ3, eτ3, h⟩ := bd0_some h
    refine q_cVV [.int v2, .int x2] dX3_carryOut_50 cv_X3_125 (ci := 3) rfl rfl t0 rfl rfl (Nat.le_of_ble_eq_true rfl) (by omega) (kX3_turnOver (d - 1) (by omega) x0 v2 x2 t0 τ3 eτ3) ?_
    refine r_goto 123 dX3_carryOut_53 (by decide) ?_
    refine r_pick [] rfl ?_
    exact tX3_carryOut_b123 hdd τ3  _ h hQ
  rcases if_split h with ⟨q9, h⟩ | ⟨n1, h⟩
  · refine r_table (1 : Int32) 55 56 dX3_carryOut_1 q9 (by decide) (by decide) rfl (by decide) ?_
    refine r_aload_n 0 dX3_carryOut_56 rfl ?_
    refine r_dup dX3_carryOut_57 rfl ?_
    refine r_getI dX3_carryOut_58 fd_X3_44 t0 ?_
    refine r_iconst (v := 1) dX3_carryOut_61 (by decide) ?_
    refine r_iload_n 2 dX3_carryOut_62 rfl ?_
    refine r_ishl dX3_carryOut_63 ?_
    refine r_ior dX3_carryOut_64 ?_
    refine q_putI dX3_carryOut_65 fd_X3_44 t0 h (fun τ4 h => ?_)
    refine r_goto 123 dX3_carryOut_68 (by decide) ?_
    refine r_pick [] rfl ?_
    exact tX3_carryOut_b123 hdd τ4  _ h hQ
  rcases if_split h with ⟨q9, h⟩ | ⟨n2, h⟩
  · refine r_table (2 : Int32) 70 71 dX3_carryOut_1 q9 (by decide) (by decide) rfl (by decide) ?_
    refine r_aload_n 0 dX3_carryOut_71 rfl ?_
    refine r_aload_n 0 dX3_carryOut_72 rfl ?_
    refine q_getR (e9 := (0, 4)) dX3_carryOut_73 fd_X3_33 t0 rfl h (fun r5 tr5 h => ?_)
    refine r_iload_n 2 dX3_carryOut_76 rfl ?_
    obtain ⟨v6, ev6, h⟩ := bd0_some h
    refine q_cVI [.int x2] dX3_carryOut_77 cv_X3_129 (ci := 4) rfl rfl tr5 rfl rfl (Nat.le_of_ble_eq_true rfl) (by omega) (kX4_otherOf (d - 1) (by omega) r5 x2 tr5 v6 ev6) ?_
    refine r_iload_n 3 dX3_carryOut_80 rfl ?_
    obtain ⟨τ7, eτ7, h⟩ := bd0_some h
    refine q_cVV [.int v6, .int x3] dX3_carryOut_81 cv_X3_132 (ci := 3) rfl rfl t0 rfl rfl (Nat.le_of_ble_eq_true rfl) (by omega) (kX3_endear (d - 1) (by omega) x0 v6 x3 t0 τ7 eτ7) ?_
    refine r_goto 123 dX3_carryOut_84 (by decide) ?_
    refine r_pick [] rfl ?_
    exact tX3_carryOut_b123 hdd τ7  _ h hQ
  rcases if_split h with ⟨q9, h⟩ | ⟨n3, h⟩
  · refine r_table (3 : Int32) 86 87 dX3_carryOut_1 q9 (by decide) (by decide) rfl (by decide) ?_
    refine r_aload_n 0 dX3_carryOut_87 rfl ?_
    refine q_getR (e9 := (1, 0)) dX3_carryOut_88 fd_X3_21 t0 rfl h (fun r8 tr8 h => ?_)
    refine r_iload_n 2 dX3_carryOut_91 rfl ?_
    refine r_iload_n 3 dX3_carryOut_92 rfl ?_
    refine q_iast dX3_carryOut_93 tr8 h (fun τ9 h => ?_)
    refine r_goto 123 dX3_carryOut_94 (by decide) ?_
    refine r_pick [] rfl ?_
    exact tX3_carryOut_b123 hdd τ9  _ h hQ
  rcases if_split h with ⟨q9, h⟩ | ⟨n4, h⟩
  · refine r_table (4 : Int32) 96 97 dX3_carryOut_1 q9 (by decide) (by decide) rfl (by decide) ?_
    refine r_aload_n 0 dX3_carryOut_97 rfl ?_
    refine q_getR (e9 := (1, 0)) dX3_carryOut_98 fd_X3_24 t0 rfl h (fun r10 tr10 h => ?_)
    refine r_iload_n 2 dX3_carryOut_101 rfl ?_
    refine r_dup2 dX3_carryOut_102 rfl rfl ?_
    refine q_iald dX3_carryOut_103 tr10 h (fun v11 h => ?_)
    refine r_iload_n 3 dX3_carryOut_104 rfl ?_
    refine r_iadd dX3_carryOut_105 ?_
    refine q_iast dX3_carryOut_106 tr10 h (fun τ12 h => ?_)
    refine r_goto 123 dX3_carryOut_107 (by decide) ?_
    refine r_pick [] rfl ?_
    exact tX3_carryOut_b123 hdd τ12  _ h hQ
  rcases if_split h with ⟨q9, h⟩ | ⟨n5, h⟩
  · refine r_table (5 : Int32) 109 110 dX3_carryOut_1 q9 (by decide) (by decide) rfl (by decide) ?_
    refine r_aload_n 0 dX3_carryOut_110 rfl ?_
    refine q_getR (e9 := (1, 0)) dX3_carryOut_111 fd_X3_18 t0 rfl h (fun r13 tr13 h => ?_)
    refine r_iload_n 2 dX3_carryOut_114 rfl ?_
    refine r_dup2 dX3_carryOut_115 rfl rfl ?_
    refine q_iald dX3_carryOut_116 tr13 h (fun v14 h => ?_)
    refine r_iload_n 3 dX3_carryOut_117 rfl ?_
    refine r_isub dX3_carryOut_118 ?_
    refine q_iast dX3_carryOut_119 tr13 h (fun τ15 h => ?_)
    refine r_goto 123 dX3_carryOut_120 (by decide) ?_
    refine r_pick [] rfl ?_
    exact tX3_carryOut_b123 hdd τ15  _ h hQ
  have n0 := ne_int n0 (z := 0) rfl
  have n1 := ne_int n1 (z := 1) rfl
  have n2 := ne_int n2 (z := 2) rfl
  have n3 := ne_int n3 (z := 3) rfl
  have n4 := ne_int n4 (z := 4) rfl
  have n5 := ne_int n5 (z := 5) rfl
  refine r_tableD 123 dX3_carryOut_1 (by omega) (by decide) ?_
  refine r_pick [] rfl ?_
  exact tX3_carryOut_b123 hdd σ  _ h hQ
theorem tX3_passHourOf_b142 {l : Launch} {G : gg} {Γ : ly} {d : Nat} {Q : Option Value → ly → mm → Prop} (hdd : 3 ≤ d) (σ : mm)     (r : mm) (h : fX3_passHourOf_b142 Γ.2 σ  = some r) (hQ : Q none Γ r) : WP l G yX3_passHourOf cX3_passHourOf 2 (none) d 0 0 Q 0 0 142 [] [] Γ σ := by
  unfold fX3_passHourOf_b142 at h
  obtain rfl := Option.some.inj h
  exact r_return dX3_passHourOf_142 rfl hQ (Nat.le_refl _) (Nat.le_refl _)
theorem kX3_passHourOf {l : Launch} {G : gg} {Γ : ly} {σ : mm} (d : Nat) (hdd : 3 ≤ d) (x0 : Nat) (x1 : Int32) (t0 : tyOK Γ (0, 3) x0) (r : mm) (h : fX3_passHourOf Γ.2 σ x0 x1 = some r) : CT l G yX3_passHourOf cX3_passHourOf 2 (none) d 0 0 [.ref (G.2.1 x0), .int x1] Γ σ (PP none Γ r) := by
  refine CT.ofWP (by decide) (Nat.le_of_ble_eq_true rfl) ?_
  have hQ : PP none Γ r none Γ r := PP.self
  generalize PP none Γ r = Q at hQ ⊢
  show WP l G yX3_passHourOf cX3_passHourOf 2 (none) d 0 0 Q 0 0 0 [(0, .ref (G.2.1 x0)), (1, .int x1)] [] Γ σ
  unfold fX3_passHourOf at h
  refine r_aload_n 0 dX3_passHourOf_0 rfl ?_
  refine q_getR (e9 := (1, 0)) dX3_passHourOf_1 fd_X3_18 t0 rfl h (fun r1 tr1 h => ?_)
  refine r_iload_n 1 dX3_passHourOf_4 rfl ?_
  refine q_iald dX3_passHourOf_5 tr1 h (fun v2 h => ?_)
  refine r_if_le 38 dX3_passHourOf_6 (by decide) h (fun _ h => ?_) (fun _ h => ?_)
  · refine r_aload_n 0 dX3_passHourOf_38 rfl ?_
    refine r_aload_n 0 dX3_passHourOf_39 rfl ?_
    refine q_getR (e9 := (0, 4)) dX3_passHourOf_40 fd_X3_33 t0 rfl h (fun r3 tr3 h => ?_)
    refine q_getR (e9 := (1, 0)) dX3_passHourOf_43 fd_X3_151 tr3 rfl h (fun r4 tr4 h => ?_)
    refine r_iload_n 1 dX3_passHourOf_46 rfl ?_
    refine q_iald dX3_passHourOf_47 tr4 h (fun v5 h => ?_)
    obtain ⟨v6, ev6, h⟩ := bd0_some h
    refine q_cVI [.int v5] dX3_passHourOf_48 cv_X3_154 (ci := 3) rfl rfl t0 rfl rfl (Nat.le_of_ble_eq_true rfl) (by omega) (kX3_isWilling (d - 1) (by omega) x0 v5 t0 v6 ev6) ?_
    refine r_if_eq 71 dX3_passHourOf_51 (by decide) h (fun _ h => ?_) (fun _ h => ?_)
    · refine r_aload_n 0 dX3_passHourOf_71 rfl ?_
      refine r_aload_n 0 dX3_passHourOf_72 rfl ?_
      refine q_getR (e9 := (0, 4)) dX3_passHourOf_73 fd_X3_33 t0 rfl h (fun r7 tr7 h => ?_)
      refine q_getR (e9 := (1, 0)) dX3_passHourOf_76 fd_X3_157 tr7 rfl h (fun r8 tr8 h => ?_)
      refine r_iload_n 1 dX3_passHourOf_79 rfl ?_
      refine q_iald dX3_passHourOf_80 tr8 h (fun v9 h => ?_)
      obtain ⟨v10, ev10, h⟩ := bd0_some h
      refine q_cVI [.int v9] dX3_passHourOf_81 cv_X3_154 (ci := 3) rfl rfl t0 rfl rfl (Nat.le_of_ble_eq_true rfl) (by omega) (kX3_isWilling (d - 1) (by omega) x0 v9 t0 v10 ev10) ?_
      refine r_if_eq 104 dX3_passHourOf_84 (by decide) h (fun _ h => ?_) (fun _ h => ?_)
      · refine r_aload_n 0 dX3_passHourOf_104 rfl ?_
        refine q_getR (e9 := (1, 0)) dX3_passHourOf_105 fd_X3_27 t0 rfl h (fun r11 tr11 h => ?_)
        refine r_iload_n 1 dX3_passHourOf_108 rfl ?_
        refine r_dup2 dX3_passHourOf_109 rfl rfl ?_
        refine q_iald dX3_passHourOf_110 tr11 h (fun v12 h => ?_)
        refine r_iconst (v := 1) dX3_passHourOf_111 (by decide) ?_
        refine r_iadd dX3_passHourOf_112 ?_
        refine q_iast dX3_passHourOf_113 tr11 h (fun τ13 h => ?_)
        refine r_aload_n 0 dX3_passHourOf_114 rfl ?_
        refine q_getR (e9 := (1, 0)) dX3_passHourOf_115 fd_X3_27 t0 rfl h (fun r14 tr14 h => ?_)
        refine r_iload_n 1 dX3_passHourOf_118 rfl ?_
        refine q_iald dX3_passHourOf_119 tr14 h (fun v15 h => ?_)
        refine r_aload_n 0 dX3_passHourOf_120 rfl ?_
        refine q_getR (e9 := (0, 4)) dX3_passHourOf_121 fd_X3_33 t0 rfl h (fun r16 tr16 h => ?_)
        refine r_getI dX3_passHourOf_124 fd_X3_160 tr16 ?_
        refine r_icmp_lt 142 dX3_passHourOf_127 (by decide) h (fun _ h => ?_) (fun _ h => ?_)
        · refine r_pick [] rfl ?_
          exact tX3_passHourOf_b142 hdd τ13  _ h hQ
        · refine r_aload_n 0 dX3_passHourOf_130 rfl ?_
          refine r_dup dX3_passHourOf_131 rfl ?_
          refine r_getI dX3_passHourOf_132 fd_X3_41 t0 ?_
          refine r_iconst (v := 1) dX3_passHourOf_135 (by decide) ?_
          refine r_iload_n 1 dX3_passHourOf_136 rfl ?_
          refine r_ishl dX3_passHourOf_137 ?_
          refine r_ior dX3_passHourOf_138 ?_
          refine q_putI dX3_passHourOf_139 fd_X3_41 t0 h (fun τ17 h => ?_)
          refine r_pick [] rfl ?_
          exact tX3_passHourOf_b142 hdd τ17  _ h hQ
      · refine r_aload_n 0 dX3_passHourOf_87 rfl ?_
        refine r_iload_n 1 dX3_passHourOf_88 rfl ?_
        refine r_aload_n 0 dX3_passHourOf_89 rfl ?_
        refine q_getR (e9 := (0, 4)) dX3_passHourOf_90 fd_X3_33 t0 rfl h (fun r18 tr18 h => ?_)
        refine q_getR (e9 := (1, 0)) dX3_passHourOf_93 fd_X3_157 tr18 rfl h (fun r19 tr19 h => ?_)
        refine r_iload_n 1 dX3_passHourOf_96 rfl ?_
        refine q_iald dX3_passHourOf_97 tr19 h (fun v20 h => ?_)
        obtain ⟨τ21, eτ21, h⟩ := bd0_some h
        refine q_cVV [.int x1, .int v20] dX3_passHourOf_98 cv_X3_125 (ci := 3) rfl rfl t0 rfl rfl (Nat.le_of_ble_eq_true rfl) (by omega) (kX3_turnOver (d - 1) (by omega) x0 x1 v20 t0 τ21 eτ21) ?_
        refine r_goto 142 dX3_passHourOf_101 (by decide) ?_
        refine r_pick [] rfl ?_
        exact tX3_passHourOf_b142 hdd τ21  _ h hQ
    · refine r_aload_n 0 dX3_passHourOf_54 rfl ?_
      refine r_iload_n 1 dX3_passHourOf_55 rfl ?_
      refine r_aload_n 0 dX3_passHourOf_56 rfl ?_
      refine q_getR (e9 := (0, 4)) dX3_passHourOf_57 fd_X3_33 t0 rfl h (fun r22 tr22 h => ?_)
      refine q_getR (e9 := (1, 0)) dX3_passHourOf_60 fd_X3_151 tr22 rfl h (fun r23 tr23 h => ?_)
      refine r_iload_n 1 dX3_passHourOf_63 rfl ?_
      refine q_iald dX3_passHourOf_64 tr23 h (fun v24 h => ?_)
      obtain ⟨τ25, eτ25, h⟩ := bd0_some h
      refine q_cVV [.int x1, .int v24] dX3_passHourOf_65 cv_X3_125 (ci := 3) rfl rfl t0 rfl rfl (Nat.le_of_ble_eq_true rfl) (by omega) (kX3_turnOver (d - 1) (by omega) x0 x1 v24 t0 τ25 eτ25) ?_
      refine r_goto 142 dX3_passHourOf_68 (by decide) ?_
      refine r_pick [] rfl ?_
      exact tX3_passHourOf_b142 hdd τ25  _ h hQ
  · refine r_aload_n 0 dX3_passHourOf_9 rfl ?_
    refine q_getR (e9 := (1, 0)) dX3_passHourOf_10 fd_X3_18 t0 rfl h (fun r26 tr26 h => ?_)
    refine r_iload_n 1 dX3_passHourOf_13 rfl ?_
    refine r_iconst (v := 0) dX3_passHourOf_14 (by decide) ?_
    refine r_aload_n 0 dX3_passHourOf_15 rfl ?_
    refine q_getR (e9 := (1, 0)) dX3_passHourOf_16 fd_X3_18 t0 rfl h (fun r27 tr27 h => ?_)
    refine r_iload_n 1 dX3_passHourOf_19 rfl ?_
    refine q_iald dX3_passHourOf_20 tr27 h (fun v28 h => ?_)
    refine r_aload_n 0 dX3_passHourOf_21 rfl ?_
    refine r_iload_n 1 dX3_passHourOf_22 rfl ?_
    refine r_aload_n 0 dX3_passHourOf_23 rfl ?_
    refine r_getI dX3_passHourOf_24 fd_X3_37 t0 ?_
    obtain ⟨v29, ev29, h⟩ := bd0_some h
    refine q_cVI [.int x1, .int (σ.1 x0 1)] dX3_passHourOf_27 cv_X3_148 (ci := 3) rfl rfl t0 rfl rfl (Nat.le_of_ble_eq_true rfl) (by omega) (kX3_runsAt (d - 1) (by omega) x0 x1 (σ.1 x0 1) t0 v29 ev29) ?_
    refine r_isub dX3_passHourOf_30 ?_
    refine r_max dX3_passHourOf_31 mx_X3_90 (Nat.le_of_ble_eq_true rfl) (by omega) (Nat.le_refl _) (Nat.le_refl _) ?_
    refine q_iast dX3_passHourOf_34 tr26 h (fun τ30 h => ?_)
    refine r_goto 142 dX3_passHourOf_35 (by decide) ?_
    refine r_pick [] rfl ?_
    exact tX3_passHourOf_b142 hdd τ30  _ h hQ
theorem tX3_passHour_b26 {l : Launch} {G : gg} {Γ : ly} {d : Nat} {Q : Option Value → ly → mm → Prop} (hdd : 4 ≤ d) (σ : mm) (x0 : Nat) (x1 : Int32)  (t0 : tyOK Γ (0, 3) x0)  (r : ((Int32 × mm) ⊕ mm)) (h : fX3_passHour_b26 Γ.2 σ x0 x1 = some r) (hb : ∀ (x1 : Int32) (σ9 : mm), r = .inl (x1, σ9) → WP l G yX3_passHour cX3_passHour 2 (none) d 0 0 Q 0 0 2 [(0, .ref (G.2.1 x0)), (1, .int x1)] [] Γ σ9) (hx0 : ∀ (σ9 : mm), r = .inr σ9 → WP l G yX3_passHour cX3_passHour 2 (none) d 0 0 Q 0 0 32 [(0, .ref (G.2.1 x0))] [] Γ σ9) : WP l G yX3_passHour cX3_passHour 2 (none) d 0 0 Q 0 0 26 [(0, .ref (G.2.1 x0)), (1, .int x1)] [] Γ σ := by
  unfold fX3_passHour_b26 at h
  refine q_iinc (v := 1) 1 (fun v1 => [(1, .int v1), (0, .ref (G.2.1 x0))]) dX3_passHour_26 rfl (by decide) (by decide) (fun _ => rfl) h (fun v1 h => ?_)
  refine r_goto 2 dX3_passHour_29 (by decide) ?_
  obtain rfl := Option.some.inj h
  refine r_pick [1, 0] rfl ?_
  exact hb _ _ rfl
theorem sX3_passHour_L2 {l : Launch} {G : gg} {Γ : ly} {d : Nat} {Q : Option Value → ly → mm → Prop} (hdd : 4 ≤ d) (x0 : Nat) (t0 : tyOK Γ (0, 3) x0) {K : mm → Prop} (kx0 : ∀ (σ9 : mm), K σ9 → WP l G yX3_passHour cX3_passHour 2 (none) d 0 0 Q 0 0 32 [(0, .ref (G.2.1 x0))] [] Γ σ9) : ∀ (N : Nat) (s : (Int32 × mm)) (b : mm), loopN (fX3_passHour_L2 Γ.2 x0) N s = some b → K b → WP l G yX3_passHour cX3_passHour 2 (none) d 0 0 Q 0 0 2 [(0, .ref (G.2.1 x0)), (1, .int s.1)] [] Γ s.2 := by
  refine r_loop (f := fX3_passHour_L2 Γ.2 x0) (hlv := fun s => [(0, .ref (G.2.1 x0)), (1, .int s.1)]) (hsg := fun s => s.2) ?_
  rintro ⟨x1, σ⟩ r h hb hx
  have hb : ∀ (x1 : Int32) (σ : mm), r = .inl (x1, σ) → WP l G yX3_passHour cX3_passHour 2 (none) d 0 0 Q 0 0 2 [(0, .ref (G.2.1 x0)), (1, .int x1)] [] Γ σ := fun x1 σ e => hb (x1, σ) e
  have hx0 : ∀ (σ9 : mm), r = .inr σ9 → WP l G yX3_passHour cX3_passHour 2 (none) d 0 0 Q 0 0 32 [(0, .ref (G.2.1 x0))] [] Γ σ9 := fun σ9 e => kx0 σ9 (hx _ e)
  unfold fX3_passHour_L2 at h
  have h := un2_some h
  show WP l G yX3_passHour cX3_passHour 2 (none) d 0 0 Q 0 0 2 [(0, .ref (G.2.1 x0)), (1, .int x1)] [] Γ σ
  refine r_iload_n 1 dX3_passHour_2 rfl ?_
  refine r_aload_n 0 dX3_passHour_3 rfl ?_
  refine q_getR (e9 := (0, 4)) dX3_passHour_4 fd_X3_33 t0 rfl h (fun r1 tr1 h => ?_)
  refine r_getI dX3_passHour_7 fd_X3_55 tr1 ?_
  refine r_icmp_ge 32 dX3_passHour_10 (by decide) h (fun _ h => ?_) (fun _ h => ?_)
  · obtain rfl := Option.some.inj h
    refine r_pick [0] rfl ?_
    exact hx0 _ rfl
  · refine r_aload_n 0 dX3_passHour_13 rfl ?_
    refine r_iload_n 1 dX3_passHour_14 rfl ?_
    obtain ⟨v2, ev2, h⟩ := bd0_some h
    refine q_cVI [.int x1] dX3_passHour_15 cv_X3_106 (ci := 3) rfl rfl t0 rfl rfl (Nat.le_of_ble_eq_true rfl) (by omega) (kX3_isLapsed (d - 1) (by omega) x0 x1 t0 v2 ev2) ?_
    refine r_if_ne 26 dX3_passHour_18 (by decide) h (fun _ h => ?_) (fun _ h => ?_)
    · exact tX3_passHour_b26 hdd σ x0 x1 t0 _ h hb hx0
    · refine r_aload_n 0 dX3_passHour_21 rfl ?_
      refine r_iload_n 1 dX3_passHour_22 rfl ?_
      obtain ⟨τ3, eτ3, h⟩ := bd0_some h
      refine q_cVV [.int x1] dX3_passHour_23 cv_X3_141 (ci := 3) rfl rfl t0 rfl rfl (Nat.le_of_ble_eq_true rfl) (by omega) (kX3_passHourOf (d - 1) (by omega) x0 x1 t0 τ3 eτ3) ?_
      exact tX3_passHour_b26 hdd τ3 x0 x1 t0 _ h hb hx0
theorem tX3_passHour_b88 {l : Launch} {G : gg} {Γ : ly} {d : Nat} {Q : Option Value → ly → mm → Prop} (hdd : 4 ≤ d) (σ : mm) (x0 : Nat)  (t0 : tyOK Γ (0, 3) x0)  (r : mm) (h : fX3_passHour_b88 Γ.2 σ x0 = some r) (hQ : Q none Γ r) : WP l G yX3_passHour cX3_passHour 2 (none) d 0 0 Q 0 0 88 [(0, .ref (G.2.1 x0))] [] Γ σ := by
  unfold fX3_passHour_b88 at h
  refine r_aload_n 0 dX3_passHour_88 rfl ?_
  refine r_dup dX3_passHour_89 rfl ?_
  refine r_getI dX3_passHour_90 fd_X3_37 t0 ?_
  refine r_iconst (v := 1) dX3_passHour_93 (by decide) ?_
  refine r_iadd dX3_passHour_94 ?_
  refine q_putI dX3_passHour_95 fd_X3_37 t0 h (fun τ1 h => ?_)
  obtain rfl := Option.some.inj h
  exact r_return dX3_passHour_98 rfl hQ (Nat.le_refl _) (Nat.le_refl _)
theorem sX3_passHour_L51 {l : Launch} {G : gg} {Γ : ly} {d : Nat} {Q : Option Value → ly → mm → Prop} (hdd : 4 ≤ d) (x0 : Nat) (t0 : tyOK Γ (0, 3) x0) {K : mm → Prop} (kx0 : ∀ (σ9 : mm), K σ9 → WP l G yX3_passHour cX3_passHour 2 (none) d 0 0 Q 0 0 88 [(0, .ref (G.2.1 x0))] [] Γ σ9) : ∀ (N : Nat) (s : (Int32 × mm)) (b : mm), loopN (fX3_passHour_L51 Γ.2 x0) N s = some b → K b → WP l G yX3_passHour cX3_passHour 2 (none) d 0 0 Q 0 0 51 [(0, .ref (G.2.1 x0)), (1, .int s.1)] [] Γ s.2 := by
  refine r_loop (f := fX3_passHour_L51 Γ.2 x0) (hlv := fun s => [(0, .ref (G.2.1 x0)), (1, .int s.1)]) (hsg := fun s => s.2) ?_
  rintro ⟨x1, σ⟩ r h hb hx
  have hb : ∀ (x1 : Int32) (σ : mm), r = .inl (x1, σ) → WP l G yX3_passHour cX3_passHour 2 (none) d 0 0 Q 0 0 51 [(0, .ref (G.2.1 x0)), (1, .int x1)] [] Γ σ := fun x1 σ e => hb (x1, σ) e
  have hx0 : ∀ (σ9 : mm), r = .inr σ9 → WP l G yX3_passHour cX3_passHour 2 (none) d 0 0 Q 0 0 88 [(0, .ref (G.2.1 x0))] [] Γ σ9 := fun σ9 e => kx0 σ9 (hx _ e)
  unfold fX3_passHour_L51 at h
  have h := un2_some h
  show WP l G yX3_passHour cX3_passHour 2 (none) d 0 0 Q 0 0 51 [(0, .ref (G.2.1 x0)), (1, .int x1)] [] Γ σ
  refine r_iload_n 1 dX3_passHour_51 rfl ?_
  refine r_aload_n 0 dX3_passHour_52 rfl ?_
  refine q_getR (e9 := (0, 4)) dX3_passHour_53 fd_X3_33 t0 rfl h (fun r1 tr1 h => ?_)
  refine r_getI dX3_passHour_56 fd_X3_47 tr1 ?_
  refine r_icmp_ge 88 dX3_passHour_59 (by decide) h (fun _ h => ?_) (fun _ h => ?_)
  · obtain rfl := Option.some.inj h
    refine r_pick [0] rfl ?_
    exact hx0 _ rfl
  · refine r_aload_n 0 dX3_passHour_62 rfl ?_
    refine q_getR (e9 := (1, 0)) dX3_passHour_63 fd_X3_9 t0 rfl h (fun r2 tr2 h => ?_)
    refine r_iload_n 1 dX3_passHour_66 rfl ?_
    refine r_aload_n 0 dX3_passHour_67 rfl ?_
    refine q_getR (e9 := (0, 4)) dX3_passHour_68 fd_X3_33 t0 rfl h (fun r3 tr3 h => ?_)
    refine r_iload_n 1 dX3_passHour_71 rfl ?_
    refine r_aload_n 0 dX3_passHour_72 rfl ?_
    refine q_getR (e9 := (1, 0)) dX3_passHour_73 fd_X3_9 t0 rfl h (fun r4 tr4 h => ?_)
    refine r_iload_n 1 dX3_passHour_76 rfl ?_
    refine q_iald dX3_passHour_77 tr4 h (fun v5 h => ?_)
    obtain ⟨v6, ev6, h⟩ := bd0_some h
    refine q_cVI [.int x1, .int v5] dX3_passHour_78 cv_X3_145 (ci := 4) rfl rfl tr3 rfl rfl (Nat.le_of_ble_eq_true rfl) (by omega) (kX4_fondNextDay (d - 1) (by omega) r3 x1 v5 tr3 v6 ev6) ?_
    refine q_iast dX3_passHour_81 tr2 h (fun τ7 h => ?_)
    refine q_iinc (v := 1) 1 (fun v8 => [(1, .int v8), (0, .ref (G.2.1 x0))]) dX3_passHour_82 rfl (by decide) (by decide) (fun _ => rfl) h (fun v8 h => ?_)
    refine r_goto 51 dX3_passHour_85 (by decide) ?_
    obtain rfl := Option.some.inj h
    refine r_pick [1, 0] rfl ?_
    exact hb _ _ rfl
theorem kX3_passHour {l : Launch} {G : gg} {Γ : ly} {σ : mm} (d : Nat) (hdd : 4 ≤ d) (x0 : Nat) (t0 : tyOK Γ (0, 3) x0) (r : mm) (h : fX3_passHour Γ.2 σ x0 = some r) : CT l G yX3_passHour cX3_passHour 2 (none) d 0 0 [.ref (G.2.1 x0)] Γ σ (PP none Γ r) := by
  refine CT.ofWP (by decide) (Nat.le_of_ble_eq_true rfl) ?_
  have hQ : PP none Γ r none Γ r := PP.self
  generalize PP none Γ r = Q at hQ ⊢
  show WP l G yX3_passHour cX3_passHour 2 (none) d 0 0 Q 0 0 0 [(0, .ref (G.2.1 x0))] [] Γ σ
  unfold fX3_passHour at h
  refine r_iconst (v := 0) dX3_passHour_0 (by decide) ?_
  refine r_istore_n (lv' := [(1, .int (0 : Int32)), (0, .ref (G.2.1 x0))]) dX3_passHour_1 (by decide) rfl ?_
  obtain ⟨b1, eb1, h⟩ := bd0_some h
  refine r_pick [1, 0] rfl ?_
  refine sX3_passHour_L2 hdd x0 t0 (K := fun b => b = b1) ?_ 1000 ((0 : Int32), σ) b1 eb1 rfl
  rintro τ2 rfl
  refine r_aload_n 0 dX3_passHour_32 rfl ?_
  refine r_iconst (v := 0) dX3_passHour_33 (by decide) ?_
  refine q_putI dX3_passHour_34 fd_X3_44 t0 h (fun τ3 h => ?_)
  refine r_aload_n 0 dX3_passHour_37 rfl ?_
  refine r_getI dX3_passHour_38 fd_X3_37 t0 ?_
  refine r_bipush (v := 24) dX3_passHour_41 (by decide) ?_
  refine r_irem dX3_passHour_43 (by decide) ?_
  refine r_bipush (v := 23) dX3_passHour_44 (by decide) ?_
  refine r_icmp_ne 88 dX3_passHour_46 (by decide) h (fun _ h => ?_) (fun _ h => ?_)
  · exact tX3_passHour_b88 hdd τ3 x0 t0 _ h hQ
  · refine r_iconst (v := 0) dX3_passHour_49 (by decide) ?_
    refine r_istore_n (lv' := [(1, .int (0 : Int32)), (0, .ref (G.2.1 x0))]) dX3_passHour_50 (by decide) rfl ?_
    obtain ⟨b4, eb4, h⟩ := bd0_some h
    refine r_pick [1, 0] rfl ?_
    refine sX3_passHour_L51 hdd x0 t0 (K := fun b => b = b4) ?_ 1000 ((0 : Int32), τ3) b4 eb4 rfl
    rintro τ5 rfl
    exact tX3_passHour_b88 hdd τ5 x0 t0 _ h hQ
theorem sX3_passHours_L2 {l : Launch} {G : gg} {Γ : ly} {d : Nat} {Q : Option Value → ly → mm → Prop} (hdd : 5 ≤ d) (x0 : Nat) (x1 : Int32) (t0 : tyOK Γ (0, 3) x0) {K : mm → Prop} (kx0 : ∀ (σ9 : mm), K σ9 → WP l G yX3_passHours cX3_passHours 3 (none) d 0 0 Q 0 0 17 [] [] Γ σ9) : ∀ (N : Nat) (s : (Int32 × mm)) (b : mm), loopN (fX3_passHours_L2 Γ.2 x0 x1) N s = some b → K b → WP l G yX3_passHours cX3_passHours 3 (none) d 0 0 Q 0 0 2 [(0, .ref (G.2.1 x0)), (1, .int x1), (2, .int s.1)] [] Γ s.2 := by
  refine r_loop (f := fX3_passHours_L2 Γ.2 x0 x1) (hlv := fun s => [(0, .ref (G.2.1 x0)), (1, .int x1), (2, .int s.1)]) (hsg := fun s => s.2) ?_
  rintro ⟨x2, σ⟩ r h hb hx
  have hb : ∀ (x2 : Int32) (σ : mm), r = .inl (x2, σ) → WP l G yX3_passHours cX3_passHours 3 (none) d 0 0 Q 0 0 2 [(0, .ref (G.2.1 x0)), (1, .int x1), (2, .int x2)] [] Γ σ := fun x2 σ e => hb (x2, σ) e
  have hx0 : ∀ (σ9 : mm), r = .inr σ9 → WP l G yX3_passHours cX3_passHours 3 (none) d 0 0 Q 0 0 17 [] [] Γ σ9 := fun σ9 e => kx0 σ9 (hx _ e)
  unfold fX3_passHours_L2 at h
  have h := un2_some h
  show WP l G yX3_passHours cX3_passHours 3 (none) d 0 0 Q 0 0 2 [(0, .ref (G.2.1 x0)), (1, .int x1), (2, .int x2)] [] Γ σ
  refine r_iload_n 2 dX3_passHours_2 rfl ?_
  refine r_iload_n 1 dX3_passHours_3 rfl ?_
  refine r_icmp_ge 17 dX3_passHours_4 (by decide) h (fun _ h => ?_) (fun _ h => ?_)
  · obtain rfl := Option.some.inj h
    refine r_pick [] rfl ?_
    exact hx0 _ rfl
  · refine r_aload_n 0 dX3_passHours_7 rfl ?_
    obtain ⟨τ1, eτ1, h⟩ := bd0_some h
    refine q_cVV [] dX3_passHours_8 cv_X3_138 (ci := 3) rfl rfl t0 rfl rfl (Nat.le_of_ble_eq_true rfl) (by omega) (kX3_passHour (d - 1) (by omega) x0 t0 τ1 eτ1) ?_
    refine q_iinc (v := 1) 2 (fun v2 => [(2, .int v2), (0, .ref (G.2.1 x0)), (1, .int x1)]) dX3_passHours_11 rfl (by decide) (by decide) (fun _ => rfl) h (fun v2 h => ?_)
    refine r_goto 2 dX3_passHours_14 (by decide) ?_
    obtain rfl := Option.some.inj h
    refine r_pick [1, 2, 0] rfl ?_
    exact hb _ _ rfl
theorem kX3_passHours {l : Launch} {G : gg} {Γ : ly} {σ : mm} (d : Nat) (hdd : 5 ≤ d) (x0 : Nat) (x1 : Int32) (t0 : tyOK Γ (0, 3) x0) (r : mm) (h : fX3_passHours Γ.2 σ x0 x1 = some r) : CT l G yX3_passHours cX3_passHours 3 (none) d 0 0 [.ref (G.2.1 x0), .int x1] Γ σ (PP none Γ r) := by
  refine CT.ofWP (by decide) (Nat.le_of_ble_eq_true rfl) ?_
  have hQ : PP none Γ r none Γ r := PP.self
  generalize PP none Γ r = Q at hQ ⊢
  show WP l G yX3_passHours cX3_passHours 3 (none) d 0 0 Q 0 0 0 [(0, .ref (G.2.1 x0)), (1, .int x1)] [] Γ σ
  unfold fX3_passHours at h
  refine r_iconst (v := 0) dX3_passHours_0 (by decide) ?_
  refine r_istore_n (lv' := [(2, .int (0 : Int32)), (0, .ref (G.2.1 x0)), (1, .int x1)]) dX3_passHours_1 (by decide) rfl ?_
  obtain ⟨b1, eb1, h⟩ := bd0_some h
  refine r_pick [1, 2, 0] rfl ?_
  refine sX3_passHours_L2 hdd x0 x1 t0 (K := fun b => b = b1) ?_ 1000 ((0 : Int32), σ) b1 eb1 rfl
  rintro τ2 rfl
  obtain rfl := Option.some.inj h
  exact r_return dX3_passHours_17 rfl hQ (Nat.le_refl _) (Nat.le_refl _)
theorem tX3_doIfCan_b17 {l : Launch} {G : gg} {Γ : ly} {d : Nat} {Q : Option Value → ly → mm → Prop} (hdd : 4 ≤ d) (σ : mm)     (r : mm) (h : fX3_doIfCan_b17 Γ.2 σ  = some r) (hQ : Q none Γ r) : WP l G yX3_doIfCan cX3_doIfCan 4 (none) d 0 0 Q 0 0 17 [] [] Γ σ := by
  unfold fX3_doIfCan_b17 at h
  obtain rfl := Option.some.inj h
  exact r_return dX3_doIfCan_17 rfl hQ (Nat.le_refl _) (Nat.le_refl _)
theorem kX3_doIfCan {l : Launch} {G : gg} {Γ : ly} {σ : mm} (d : Nat) (hdd : 4 ≤ d) (x0 : Nat) (x1 : Int32) (x2 : Int32) (x3 : Int32) (t0 : tyOK Γ (0, 3) x0) (r : mm) (h : fX3_doIfCan Γ.2 σ x0 x1 x2 x3 = some r) : CT l G yX3_doIfCan cX3_doIfCan 4 (none) d 0 0 [.ref (G.2.1 x0), .int x1, .int x2, .int x3] Γ σ (PP none Γ r) := by
  refine CT.ofWP (by decide) (Nat.le_of_ble_eq_true rfl) ?_
  have hQ : PP none Γ r none Γ r := PP.self
  generalize PP none Γ r = Q at hQ ⊢
  show WP l G yX3_doIfCan cX3_doIfCan 4 (none) d 0 0 Q 0 0 0 [(0, .ref (G.2.1 x0)), (1, .int x1), (2, .int x2), (3, .int x3)] [] Γ σ
  unfold fX3_doIfCan at h
  refine r_aload_n 0 dX3_doIfCan_0 rfl ?_
  refine r_iload_n 1 dX3_doIfCan_1 rfl ?_
  refine r_iload_n 2 dX3_doIfCan_2 rfl ?_
  refine r_iload_n 3 dX3_doIfCan_3 rfl ?_
  obtain ⟨v1, ev1, h⟩ := bd0_some h
  refine q_cVI [.int x1, .int x2, .int x3] dX3_doIfCan_4 cv_X3_177 (ci := 3) rfl rfl t0 rfl rfl (Nat.le_of_ble_eq_true rfl) (by omega) (kX3_whyNot (d - 1) (by omega) x0 x1 x2 x3 t0 v1 ev1) ?_
  refine r_if_ne 17 dX3_doIfCan_7 (by decide) h (fun _ h => ?_) (fun _ h => ?_)
  · refine r_pick [] rfl ?_
    exact tX3_doIfCan_b17 hdd σ  _ h hQ
  · refine r_aload_n 0 dX3_doIfCan_10 rfl ?_
    refine r_iload_n 1 dX3_doIfCan_11 rfl ?_
    refine r_iload_n 2 dX3_doIfCan_12 rfl ?_
    refine r_iload_n 3 dX3_doIfCan_13 rfl ?_
    obtain ⟨τ2, eτ2, h⟩ := bd0_some h
    refine q_cVV [.int x1, .int x2, .int x3] dX3_doIfCan_14 cv_X3_181 (ci := 3) rfl rfl t0 rfl rfl (Nat.le_of_ble_eq_true rfl) (by omega) (kX3_carryOut (d - 1) (by omega) x0 x1 x2 x3 t0 τ2 eτ2) ?_
    refine r_pick [] rfl ?_
    exact tX3_doIfCan_b17 hdd τ2  _ h hQ
theorem kX3_nextSeed {l : Launch} {G : gg} {Γ : ly} {σ : mm} (d : Nat) (hdd : 0 ≤ d) (x0 : Int32)  (r : Int32) (h : fX3_nextSeed Γ.2 σ x0 = some r) : CT l G yX3_nextSeed cX3_nextSeed 1 (some .int) d 0 0 [.int x0] Γ σ (PP (some (.int r)) Γ σ) := by
  refine CT.ofWP (by decide) (Nat.le_of_ble_eq_true rfl) ?_
  have hQ : PP (some (.int r)) Γ σ (some (.int r)) Γ σ := PP.self
  generalize PP (some (.int r)) Γ σ = Q at hQ ⊢
  show WP l G yX3_nextSeed cX3_nextSeed 1 (some .int) d 0 0 Q 0 0 0 [(0, .int x0)] [] Γ σ
  unfold fX3_nextSeed at h
  refine r_iload_n 0 dX3_nextSeed_0 rfl ?_
  refine r_ldc (v := 1103515245) dX3_nextSeed_1 ki_X3_176 ?_
  refine r_imul dX3_nextSeed_3 ?_
  refine r_sipush (v := 12345) dX3_nextSeed_4 (by decide) ?_
  refine r_iadd dX3_nextSeed_7 ?_
  obtain rfl := Option.some.inj h
  exact r_ireturn dX3_nextSeed_8 rfl hQ (Nat.le_refl _) (Nat.le_refl _)
theorem tX3_drawForGlass_b35 {l : Launch} {G : gg} {Γ : ly} {d : Nat} {Q : Option Value → ly → mm → Prop} (hdd : 5 ≤ d) (σ : mm) (x3 : Int32)    (r : (Int32 × mm)) (h : fX3_drawForGlass_b35 Γ.2 σ x3 = some r) (hQ : Q (some (.int r.1)) Γ r.2) : WP l G yX3_drawForGlass cX3_drawForGlass 4 (some .int) d 0 0 Q 0 0 35 [(3, .int x3)] [] Γ σ := by
  unfold fX3_drawForGlass_b35 at h
  refine r_iload_n 0 dX3_drawForGlass_35 rfl ?_
  obtain rfl := Option.some.inj h
  exact r_ireturn dX3_drawForGlass_36 rfl hQ (Nat.le_refl _) (Nat.le_refl _)
theorem kX3_drawForGlass {l : Launch} {G : gg} {Γ : ly} {σ : mm} (d : Nat) (hdd : 5 ≤ d) (x0 : Nat) (x1 : Int32) (x2 : Int32) (t0 : tyOK Γ (0, 3) x0) (r : (Int32 × mm)) (h : fX3_drawForGlass Γ.2 σ x0 x1 x2 = some r) : CT l G yX3_drawForGlass cX3_drawForGlass 4 (some .int) d 0 0 [.ref (G.2.1 x0), .int x1, .int x2] Γ σ (PP (some (.int r.1)) Γ r.2) := by
  refine CT.ofWP (by decide) (Nat.le_of_ble_eq_true rfl) ?_
  have hQ : PP (some (.int r.1)) Γ r.2 (some (.int r.1)) Γ r.2 := PP.self
  generalize PP (some (.int r.1)) Γ r.2 = Q at hQ ⊢
  show WP l G yX3_drawForGlass cX3_drawForGlass 4 (some .int) d 0 0 Q 0 0 0 [(0, .ref (G.2.1 x0)), (1, .int x1), (2, .int x2)] [] Γ σ
  unfold fX3_drawForGlass at h
  refine r_iload_n 2 dX3_drawForGlass_0 rfl ?_
  obtain ⟨v1, ev1, h⟩ := bd0_some h
  refine q_cSI [.int x2] dX3_drawForGlass_1 cs_X3_169 rfl rfl (Nat.le_of_ble_eq_true rfl) (by omega) (kX3_nextSeed (d - 1) (by omega) x2  v1 ev1) ?_
  refine r_istore_n (lv' := [(3, .int v1), (0, .ref (G.2.1 x0)), (1, .int x1), (2, .int x2)]) dX3_drawForGlass_4 (by decide) rfl ?_
  refine r_iload_n 0 dX3_drawForGlass_5 rfl ?_
  refine r_bipush (v := 8) dX3_drawForGlass_6 (by decide) ?_
  refine r_iushr dX3_drawForGlass_8 ?_
  refine r_bipush (v := 30) dX3_drawForGlass_9 (by decide) ?_
  refine r_irem dX3_drawForGlass_11 (by decide) ?_
  refine r_if_ne 35 dX3_drawForGlass_12 (by decide) h (fun _ h => ?_) (fun _ h => ?_)
  · refine r_pick [0] rfl ?_
    exact tX3_drawForGlass_b35 hdd σ v1  _ h hQ
  · refine r_iload_n 0 dX3_drawForGlass_15 rfl ?_
    obtain ⟨v2, ev2, h⟩ := bd0_some h
    refine q_cSI [.int v1] dX3_drawForGlass_16 cs_X3_169 rfl rfl (Nat.le_of_ble_eq_true rfl) (by omega) (kX3_nextSeed (d - 1) (by omega) v1  v2 ev2) ?_
    refine r_istore_n (lv' := [(3, .int v2), (0, .ref (G.2.1 x0)), (1, .int x1), (2, .int x2)]) dX3_drawForGlass_19 (by decide) rfl ?_
    refine r_aload_n 1 dX3_drawForGlass_20 rfl ?_
    refine r_iconst (v := 5) dX3_drawForGlass_21 (by decide) ?_
    refine r_iload_n 2 dX3_drawForGlass_22 rfl ?_
    refine r_iload_n 0 dX3_drawForGlass_23 rfl ?_
    refine r_bipush (v := 8) dX3_drawForGlass_24 (by decide) ?_
    refine r_iushr dX3_drawForGlass_26 ?_
    refine r_bipush (v := 20) dX3_drawForGlass_27 (by decide) ?_
    refine r_irem dX3_drawForGlass_29 (by decide) ?_
    refine r_iconst (v := 1) dX3_drawForGlass_30 (by decide) ?_
    refine r_iadd dX3_drawForGlass_31 ?_
    obtain ⟨τ3, eτ3, h⟩ := bd0_some h
    refine q_cVV [.int (5 : Int32), .int x1, .int ((((v2.toUInt32 >>> ((8 : Int32).toUInt32 &&& Int32.toUInt32 31)).toInt32) - ((v2.toUInt32 >>> ((8 : Int32).toUInt32 &&& Int32.toUInt32 31)).toInt32) / (20 : Int32) * (20 : Int32)) + (1 : Int32))] dX3_drawForGlass_32 cv_X3_172 (ci := 3) rfl rfl t0 rfl rfl (Nat.le_of_ble_eq_true rfl) (by omega) (kX3_doIfCan (d - 1) (by omega) x0 (5 : Int32) x1 ((((v2.toUInt32 >>> ((8 : Int32).toUInt32 &&& Int32.toUInt32 31)).toInt32) - ((v2.toUInt32 >>> ((8 : Int32).toUInt32 &&& Int32.toUInt32 31)).toInt32) / (20 : Int32) * (20 : Int32)) + (1 : Int32)) t0 τ3 eτ3) ?_
    refine r_pick [0] rfl ?_
    exact tX3_drawForGlass_b35 hdd τ3 v2  _ h hQ
theorem tX3_drawForPerson_b83 {l : Launch} {G : gg} {Γ : ly} {d : Nat} {Q : Option Value → ly → mm → Prop} (hdd : 5 ≤ d) (σ : mm) (x3 : Int32)    (r : (Int32 × mm)) (h : fX3_drawForPerson_b83 Γ.2 σ x3 = some r) (hQ : Q (some (.int r.1)) Γ r.2) : WP l G yX3_drawForPerson cX3_drawForPerson 4 (some .int) d 0 0 Q 0 0 83 [(3, .int x3)] [] Γ σ := by
  unfold fX3_drawForPerson_b83 at h
  refine r_iload_n 0 dX3_drawForPerson_83 rfl ?_
  obtain rfl := Option.some.inj h
  exact r_ireturn dX3_drawForPerson_84 rfl hQ (Nat.le_refl _) (Nat.le_refl _)
theorem kX3_drawForPerson {l : Launch} {G : gg} {Γ : ly} {σ : mm} (d : Nat) (hdd : 5 ≤ d) (x0 : Nat) (x1 : Int32) (x2 : Int32) (t0 : tyOK Γ (0, 3) x0) (r : (Int32 × mm)) (h : fX3_drawForPerson Γ.2 σ x0 x1 x2 = some r) : CT l G yX3_drawForPerson cX3_drawForPerson 4 (some .int) d 0 0 [.ref (G.2.1 x0), .int x1, .int x2] Γ σ (PP (some (.int r.1)) Γ r.2) := by
  refine CT.ofWP (by decide) (Nat.le_of_ble_eq_true rfl) ?_
  have hQ : PP (some (.int r.1)) Γ r.2 (some (.int r.1)) Γ r.2 := PP.self
  generalize PP (some (.int r.1)) Γ r.2 = Q at hQ ⊢
  show WP l G yX3_drawForPerson cX3_drawForPerson 4 (some .int) d 0 0 Q 0 0 0 [(0, .ref (G.2.1 x0)), (1, .int x1), (2, .int x2)] [] Γ σ
  unfold fX3_drawForPerson at h
  refine r_iload_n 2 dX3_drawForPerson_0 rfl ?_
  obtain ⟨v1, ev1, h⟩ := bd0_some h
  refine q_cSI [.int x2] dX3_drawForPerson_1 cs_X3_169 rfl rfl (Nat.le_of_ble_eq_true rfl) (by omega) (kX3_nextSeed (d - 1) (by omega) x2  v1 ev1) ?_
  refine r_istore_n (lv' := [(3, .int v1), (0, .ref (G.2.1 x0)), (1, .int x1), (2, .int x2)]) dX3_drawForPerson_4 (by decide) rfl ?_
  refine r_iload_n 0 dX3_drawForPerson_5 rfl ?_
  refine r_bipush (v := 8) dX3_drawForPerson_6 (by decide) ?_
  refine r_iushr dX3_drawForPerson_8 ?_
  refine r_bipush (v := 12) dX3_drawForPerson_9 (by decide) ?_
  refine r_irem dX3_drawForPerson_11 (by decide) ?_
  refine q_nmI h (fun v2 h => ?_)
  rcases if_split h with ⟨q9, h⟩ | ⟨n0, h⟩
  · refine r_table (0 : Int32) 28 40 dX3_drawForPerson_12 q9 (by decide) (by decide) rfl (by decide) ?_
    refine r_iload_n 0 dX3_drawForPerson_40 rfl ?_
    obtain ⟨v3, ev3, h⟩ := bd0_some h
    refine q_cSI [.int v1] dX3_drawForPerson_41 cs_X3_169 rfl rfl (Nat.le_of_ble_eq_true rfl) (by omega) (kX3_nextSeed (d - 1) (by omega) v1  v3 ev3) ?_
    refine r_istore_n (lv' := [(3, .int v3), (0, .ref (G.2.1 x0)), (1, .int x1), (2, .int x2)]) dX3_drawForPerson_44 (by decide) rfl ?_
    refine r_aload_n 1 dX3_drawForPerson_45 rfl ?_
    refine r_iconst (v := 2) dX3_drawForPerson_46 (by decide) ?_
    refine r_iload_n 2 dX3_drawForPerson_47 rfl ?_
    refine r_iload_n 0 dX3_drawForPerson_48 rfl ?_
    refine r_bipush (v := 8) dX3_drawForPerson_49 (by decide) ?_
    refine r_iushr dX3_drawForPerson_51 ?_
    refine r_bipush (v := 10) dX3_drawForPerson_52 (by decide) ?_
    refine r_irem dX3_drawForPerson_54 (by decide) ?_
    refine r_iconst (v := 1) dX3_drawForPerson_55 (by decide) ?_
    refine r_iadd dX3_drawForPerson_56 ?_
    obtain ⟨τ4, eτ4, h⟩ := bd0_some h
    refine q_cVV [.int (2 : Int32), .int x1, .int ((((v3.toUInt32 >>> ((8 : Int32).toUInt32 &&& Int32.toUInt32 31)).toInt32) - ((v3.toUInt32 >>> ((8 : Int32).toUInt32 &&& Int32.toUInt32 31)).toInt32) / (10 : Int32) * (10 : Int32)) + (1 : Int32))] dX3_drawForPerson_57 cv_X3_172 (ci := 3) rfl rfl t0 rfl rfl (Nat.le_of_ble_eq_true rfl) (by omega) (kX3_doIfCan (d - 1) (by omega) x0 (2 : Int32) x1 ((((v3.toUInt32 >>> ((8 : Int32).toUInt32 &&& Int32.toUInt32 31)).toInt32) - ((v3.toUInt32 >>> ((8 : Int32).toUInt32 &&& Int32.toUInt32 31)).toInt32) / (10 : Int32) * (10 : Int32)) + (1 : Int32)) t0 τ4 eτ4) ?_
    refine r_goto 83 dX3_drawForPerson_60 (by decide) ?_
    refine r_pick [0] rfl ?_
    exact tX3_drawForPerson_b83 hdd τ4 v3  _ h hQ
  rcases if_split h with ⟨q9, h⟩ | ⟨n1, h⟩
  · refine r_table (1 : Int32) 51 63 dX3_drawForPerson_12 q9 (by decide) (by decide) rfl (by decide) ?_
    refine r_aload_n 1 dX3_drawForPerson_63 rfl ?_
    refine r_iconst (v := 0) dX3_drawForPerson_64 (by decide) ?_
    refine r_iload_n 2 dX3_drawForPerson_65 rfl ?_
    refine r_iconst (v := 0) dX3_drawForPerson_66 (by decide) ?_
    obtain ⟨τ5, eτ5, h⟩ := bd0_some h
    refine q_cVV [.int (0 : Int32), .int x1, .int (0 : Int32)] dX3_drawForPerson_67 cv_X3_172 (ci := 3) rfl rfl t0 rfl rfl (Nat.le_of_ble_eq_true rfl) (by omega) (kX3_doIfCan (d - 1) (by omega) x0 (0 : Int32) x1 (0 : Int32) t0 τ5 eτ5) ?_
    refine r_goto 83 dX3_drawForPerson_70 (by decide) ?_
    refine r_pick [0] rfl ?_
    exact tX3_drawForPerson_b83 hdd τ5 v1  _ h hQ
  rcases if_split h with ⟨q9, h⟩ | ⟨n2, h⟩
  · refine r_table (2 : Int32) 61 73 dX3_drawForPerson_12 q9 (by decide) (by decide) rfl (by decide) ?_
    refine r_aload_n 1 dX3_drawForPerson_73 rfl ?_
    refine r_iconst (v := 1) dX3_drawForPerson_74 (by decide) ?_
    refine r_iload_n 2 dX3_drawForPerson_75 rfl ?_
    refine r_iconst (v := 0) dX3_drawForPerson_76 (by decide) ?_
    obtain ⟨τ6, eτ6, h⟩ := bd0_some h
    refine q_cVV [.int (1 : Int32), .int x1, .int (0 : Int32)] dX3_drawForPerson_77 cv_X3_172 (ci := 3) rfl rfl t0 rfl rfl (Nat.le_of_ble_eq_true rfl) (by omega) (kX3_doIfCan (d - 1) (by omega) x0 (1 : Int32) x1 (0 : Int32) t0 τ6 eτ6) ?_
    refine r_goto 83 dX3_drawForPerson_80 (by decide) ?_
    refine r_pick [0] rfl ?_
    exact tX3_drawForPerson_b83 hdd τ6 v1  _ h hQ
  have n0 := ne_int n0 (z := 0) rfl
  have n1 := ne_int n1 (z := 1) rfl
  have n2 := ne_int n2 (z := 2) rfl
  refine r_tableD 83 dX3_drawForPerson_12 (by omega) (by decide) ?_
  refine r_pick [0] rfl ?_
  exact tX3_drawForPerson_b83 hdd σ v1  _ h hQ
theorem sX3_drawHours_L14 {l : Launch} {G : gg} {Γ : ly} {d : Nat} {Q : Option Value → ly → mm → Prop} (hdd : 6 ≤ d) (x0 : Nat) (x1 : Int32) (x4 : Int32) (t0 : tyOK Γ (0, 3) x0) {K : (Int32 × mm) → Prop} (kx0 : ∀ (x3 : Int32) (σ9 : mm), K (x3, σ9) → WP l G yX3_drawHours cX3_drawHours 6 (none) d 0 0 Q 0 0 40 [(0, .ref (G.2.1 x0)), (1, .int x1), (3, .int x3), (4, .int x4)] [] Γ σ9) : ∀ (N : Nat) (s : (Int32 × Int32 × mm)) (b : (Int32 × mm)), loopN (fX3_drawHours_L14 Γ.2 x0 x1 x4) N s = some b → K b → WP l G yX3_drawHours cX3_drawHours 6 (none) d 0 0 Q 0 0 14 [(0, .ref (G.2.1 x0)), (1, .int x1), (3, .int s.1), (4, .int x4), (5, .int s.2.1)] [] Γ s.2.2 := by
  refine r_loop (f := fX3_drawHours_L14 Γ.2 x0 x1 x4) (hlv := fun s => [(0, .ref (G.2.1 x0)), (1, .int x1), (3, .int s.1), (4, .int x4), (5, .int s.2.1)]) (hsg := fun s => s.2.2) ?_
  rintro ⟨x3, x5, σ⟩ r h hb hx
  have hb : ∀ (x3 : Int32) (x5 : Int32) (σ : mm), r = .inl (x3, x5, σ) → WP l G yX3_drawHours cX3_drawHours 6 (none) d 0 0 Q 0 0 14 [(0, .ref (G.2.1 x0)), (1, .int x1), (3, .int x3), (4, .int x4), (5, .int x5)] [] Γ σ := fun x3 x5 σ e => hb (x3, x5, σ) e
  have hx0 : ∀ (x3 : Int32) (σ9 : mm), r = .inr (x3, σ9) → WP l G yX3_drawHours cX3_drawHours 6 (none) d 0 0 Q 0 0 40 [(0, .ref (G.2.1 x0)), (1, .int x1), (3, .int x3), (4, .int x4)] [] Γ σ9 := fun x3 σ9 e => kx0 x3 σ9 (hx _ e)
  unfold fX3_drawHours_L14 at h
  have h := un3_some h
  show WP l G yX3_drawHours cX3_drawHours 6 (none) d 0 0 Q 0 0 14 [(0, .ref (G.2.1 x0)), (1, .int x1), (3, .int x3), (4, .int x4), (5, .int x5)] [] Γ σ
  refine r_iload 4 dX3_drawHours_14 rfl ?_
  refine r_aload_n 0 dX3_drawHours_16 rfl ?_
  refine q_getR (e9 := (0, 4)) dX3_drawHours_17 fd_X3_33 t0 rfl h (fun r1 tr1 h => ?_)
  refine r_getI dX3_drawHours_20 fd_X3_47 tr1 ?_
  refine r_icmp_ge 40 dX3_drawHours_23 (by decide) h (fun _ h => ?_) (fun _ h => ?_)
  · obtain rfl := Option.some.inj h
    refine r_pick [0, 1, 2, 3] rfl ?_
    exact hx0 _ _ rfl
  · refine r_aload_n 0 dX3_drawHours_26 rfl ?_
    refine r_iload 4 dX3_drawHours_27 rfl ?_
    refine r_iload_n 2 dX3_drawHours_29 rfl ?_
    obtain ⟨v2, τ3, ev2, h⟩ := bd2_some h
    refine q_cVI [.int x5, .int x3] dX3_drawHours_30 cv_X3_163 (ci := 3) rfl rfl t0 rfl rfl (Nat.le_of_ble_eq_true rfl) (by omega) (kX3_drawForPerson (d - 1) (by omega) x0 x5 x3 t0 (v2, τ3) ev2) ?_
    refine r_istore_n (lv' := [(3, .int v2), (0, .ref (G.2.1 x0)), (1, .int x1), (4, .int x4), (5, .int x5)]) dX3_drawHours_33 (by decide) rfl ?_
    refine q_iinc (v := 1) 4 (fun v4 => [(5, .int v4), (3, .int v2), (0, .ref (G.2.1 x0)), (1, .int x1), (4, .int x4)]) dX3_drawHours_34 rfl (by decide) (by decide) (fun _ => rfl) h (fun v4 h => ?_)
    refine r_goto 14 dX3_drawHours_37 (by decide) ?_
    obtain rfl := Option.some.inj h
    refine r_pick [2, 3, 1, 4, 0] rfl ?_
    exact hb _ _ _ rfl
theorem sX3_drawHours_L43 {l : Launch} {G : gg} {Γ : ly} {d : Nat} {Q : Option Value → ly → mm → Prop} (hdd : 6 ≤ d) (x0 : Nat) (x1 : Int32) (x4 : Int32) (t0 : tyOK Γ (0, 3) x0) {K : (Int32 × mm) → Prop} (kx0 : ∀ (x3 : Int32) (σ9 : mm), K (x3, σ9) → WP l G yX3_drawHours cX3_drawHours 6 (none) d 0 0 Q 0 0 69 [(0, .ref (G.2.1 x0)), (1, .int x1), (3, .int x3), (4, .int x4)] [] Γ σ9) : ∀ (N : Nat) (s : (Int32 × Int32 × mm)) (b : (Int32 × mm)), loopN (fX3_drawHours_L43 Γ.2 x0 x1 x4) N s = some b → K b → WP l G yX3_drawHours cX3_drawHours 6 (none) d 0 0 Q 0 0 43 [(0, .ref (G.2.1 x0)), (1, .int x1), (3, .int s.1), (4, .int x4), (5, .int s.2.1)] [] Γ s.2.2 := by
  refine r_loop (f := fX3_drawHours_L43 Γ.2 x0 x1 x4) (hlv := fun s => [(0, .ref (G.2.1 x0)), (1, .int x1), (3, .int s.1), (4, .int x4), (5, .int s.2.1)]) (hsg := fun s => s.2.2) ?_
  rintro ⟨x3, x5, σ⟩ r h hb hx
  have hb : ∀ (x3 : Int32) (x5 : Int32) (σ : mm), r = .inl (x3, x5, σ) → WP l G yX3_drawHours cX3_drawHours 6 (none) d 0 0 Q 0 0 43 [(0, .ref (G.2.1 x0)), (1, .int x1), (3, .int x3), (4, .int x4), (5, .int x5)] [] Γ σ := fun x3 x5 σ e => hb (x3, x5, σ) e
  have hx0 : ∀ (x3 : Int32) (σ9 : mm), r = .inr (x3, σ9) → WP l G yX3_drawHours cX3_drawHours 6 (none) d 0 0 Q 0 0 69 [(0, .ref (G.2.1 x0)), (1, .int x1), (3, .int x3), (4, .int x4)] [] Γ σ9 := fun x3 σ9 e => kx0 x3 σ9 (hx _ e)
  unfold fX3_drawHours_L43 at h
  have h := un3_some h
  show WP l G yX3_drawHours cX3_drawHours 6 (none) d 0 0 Q 0 0 43 [(0, .ref (G.2.1 x0)), (1, .int x1), (3, .int x3), (4, .int x4), (5, .int x5)] [] Γ σ
  refine r_iload 4 dX3_drawHours_43 rfl ?_
  refine r_aload_n 0 dX3_drawHours_45 rfl ?_
  refine q_getR (e9 := (0, 4)) dX3_drawHours_46 fd_X3_33 t0 rfl h (fun r1 tr1 h => ?_)
  refine r_getI dX3_drawHours_49 fd_X3_55 tr1 ?_
  refine r_icmp_ge 69 dX3_drawHours_52 (by decide) h (fun _ h => ?_) (fun _ h => ?_)
  · obtain rfl := Option.some.inj h
    refine r_pick [0, 1, 2, 3] rfl ?_
    exact hx0 _ _ rfl
  · refine r_aload_n 0 dX3_drawHours_55 rfl ?_
    refine r_iload 4 dX3_drawHours_56 rfl ?_
    refine r_iload_n 2 dX3_drawHours_58 rfl ?_
    obtain ⟨v2, τ3, ev2, h⟩ := bd2_some h
    refine q_cVI [.int x5, .int x3] dX3_drawHours_59 cv_X3_166 (ci := 3) rfl rfl t0 rfl rfl (Nat.le_of_ble_eq_true rfl) (by omega) (kX3_drawForGlass (d - 1) (by omega) x0 x5 x3 t0 (v2, τ3) ev2) ?_
    refine r_istore_n (lv' := [(3, .int v2), (0, .ref (G.2.1 x0)), (1, .int x1), (4, .int x4), (5, .int x5)]) dX3_drawHours_62 (by decide) rfl ?_
    refine q_iinc (v := 1) 4 (fun v4 => [(5, .int v4), (3, .int v2), (0, .ref (G.2.1 x0)), (1, .int x1), (4, .int x4)]) dX3_drawHours_63 rfl (by decide) (by decide) (fun _ => rfl) h (fun v4 h => ?_)
    refine r_goto 43 dX3_drawHours_66 (by decide) ?_
    obtain rfl := Option.some.inj h
    refine r_pick [2, 3, 1, 4, 0] rfl ?_
    exact hb _ _ _ rfl
theorem sX3_drawHours_L5 {l : Launch} {G : gg} {Γ : ly} {d : Nat} {Q : Option Value → ly → mm → Prop} (hdd : 6 ≤ d) (x0 : Nat) (x1 : Int32) (t0 : tyOK Γ (0, 3) x0) {K : mm → Prop} (kx0 : ∀ (σ9 : mm), K σ9 → WP l G yX3_drawHours cX3_drawHours 6 (none) d 0 0 Q 0 0 79 [] [] Γ σ9) : ∀ (N : Nat) (s : (Int32 × Int32 × mm)) (b : mm), loopN (fX3_drawHours_L5 Γ.2 x0 x1) N s = some b → K b → WP l G yX3_drawHours cX3_drawHours 6 (none) d 0 0 Q 0 0 5 [(0, .ref (G.2.1 x0)), (1, .int x1), (3, .int s.1), (4, .int s.2.1)] [] Γ s.2.2 := by
  refine r_loop (f := fX3_drawHours_L5 Γ.2 x0 x1) (hlv := fun s => [(0, .ref (G.2.1 x0)), (1, .int x1), (3, .int s.1), (4, .int s.2.1)]) (hsg := fun s => s.2.2) ?_
  rintro ⟨x3, x4, σ⟩ r h hb hx
  have hb : ∀ (x3 : Int32) (x4 : Int32) (σ : mm), r = .inl (x3, x4, σ) → WP l G yX3_drawHours cX3_drawHours 6 (none) d 0 0 Q 0 0 5 [(0, .ref (G.2.1 x0)), (1, .int x1), (3, .int x3), (4, .int x4)] [] Γ σ := fun x3 x4 σ e => hb (x3, x4, σ) e
  have hx0 : ∀ (σ9 : mm), r = .inr σ9 → WP l G yX3_drawHours cX3_drawHours 6 (none) d 0 0 Q 0 0 79 [] [] Γ σ9 := fun σ9 e => kx0 σ9 (hx _ e)
  unfold fX3_drawHours_L5 at h
  have h := un3_some h
  show WP l G yX3_drawHours cX3_drawHours 6 (none) d 0 0 Q 0 0 5 [(0, .ref (G.2.1 x0)), (1, .int x1), (3, .int x3), (4, .int x4)] [] Γ σ
  refine r_iload 3 dX3_drawHours_5 rfl ?_
  refine r_iload_n 1 dX3_drawHours_7 rfl ?_
  refine r_icmp_ge 79 dX3_drawHours_8 (by decide) h (fun _ h => ?_) (fun _ h => ?_)
  · obtain rfl := Option.some.inj h
    refine r_pick [] rfl ?_
    exact hx0 _ rfl
  · refine r_iconst (v := 0) dX3_drawHours_11 (by decide) ?_
    refine r_istore (lv' := [(5, .int (0 : Int32)), (0, .ref (G.2.1 x0)), (1, .int x1), (3, .int x3), (4, .int x4)]) dX3_drawHours_12 (by decide) rfl ?_
    obtain ⟨b1, eb1, h⟩ := bd0_some h
    refine r_pick [1, 2, 3, 4, 0] rfl ?_
    refine sX3_drawHours_L14 hdd x0 x1 x4 t0 (K := fun b => b = b1) ?_ 1000 (x3, (0 : Int32), σ) b1 eb1 rfl
    rintro v2 τ3 rfl
    have h := un2_some h
    refine r_iconst (v := 0) dX3_drawHours_40 (by decide) ?_
    refine r_istore (lv' := [(5, .int (0 : Int32)), (0, .ref (G.2.1 x0)), (1, .int x1), (3, .int v2), (4, .int x4)]) dX3_drawHours_41 (by decide) rfl ?_
    obtain ⟨b4, eb4, h⟩ := bd0_some h
    refine r_pick [1, 2, 3, 4, 0] rfl ?_
    refine sX3_drawHours_L43 hdd x0 x1 x4 t0 (K := fun b => b = b4) ?_ 1000 (v2, (0 : Int32), τ3) b4 eb4 rfl
    rintro v5 τ6 rfl
    have h := un2_some h
    refine r_aload_n 0 dX3_drawHours_69 rfl ?_
    obtain ⟨τ7, eτ7, h⟩ := bd0_some h
    refine q_cVV [] dX3_drawHours_70 cv_X3_138 (ci := 3) rfl rfl t0 rfl rfl (Nat.le_of_ble_eq_true rfl) (by omega) (kX3_passHour (d - 1) (by omega) x0 t0 τ7 eτ7) ?_
    refine q_iinc (v := 1) 3 (fun v8 => [(4, .int v8), (0, .ref (G.2.1 x0)), (1, .int x1), (3, .int v5)]) dX3_drawHours_73 rfl (by decide) (by decide) (fun _ => rfl) h (fun v8 h => ?_)
    refine r_goto 5 dX3_drawHours_76 (by decide) ?_
    obtain rfl := Option.some.inj h
    refine r_pick [1, 2, 3, 0] rfl ?_
    exact hb _ _ _ rfl
theorem kX3_drawHours {l : Launch} {G : gg} {Γ : ly} {σ : mm} (d : Nat) (hdd : 6 ≤ d) (x0 : Nat) (x1 : Int32) (x2 : Int32) (t0 : tyOK Γ (0, 3) x0) (r : mm) (h : fX3_drawHours Γ.2 σ x0 x1 x2 = some r) : CT l G yX3_drawHours cX3_drawHours 6 (none) d 0 0 [.ref (G.2.1 x0), .int x1, .int x2] Γ σ (PP none Γ r) := by
  refine CT.ofWP (by decide) (Nat.le_of_ble_eq_true rfl) ?_
  have hQ : PP none Γ r none Γ r := PP.self
  generalize PP none Γ r = Q at hQ ⊢
  show WP l G yX3_drawHours cX3_drawHours 6 (none) d 0 0 Q 0 0 0 [(0, .ref (G.2.1 x0)), (1, .int x1), (2, .int x2)] [] Γ σ
  unfold fX3_drawHours at h
  refine r_iload_n 2 dX3_drawHours_0 rfl ?_
  refine r_istore_n (lv' := [(3, .int x2), (0, .ref (G.2.1 x0)), (1, .int x1), (2, .int x2)]) dX3_drawHours_1 (by decide) rfl ?_
  refine r_iconst (v := 0) dX3_drawHours_2 (by decide) ?_
  refine r_istore (lv' := [(4, .int (0 : Int32)), (3, .int x2), (0, .ref (G.2.1 x0)), (1, .int x1), (2, .int x2)]) dX3_drawHours_3 (by decide) rfl ?_
  obtain ⟨b1, eb1, h⟩ := bd0_some h
  refine r_pick [2, 3, 1, 0] rfl ?_
  refine sX3_drawHours_L5 hdd x0 x1 t0 (K := fun b => b = b1) ?_ 1000 (x2, (0 : Int32), σ) b1 eb1 rfl
  rintro τ2 rfl
  obtain rfl := Option.some.inj h
  exact r_return dX3_drawHours_79 rfl hQ (Nat.le_refl _) (Nat.le_refl _)
theorem kX4_forget {l : Launch} {G : gg} {Γ : ly} {σ : mm} (d : Nat) (hdd : 0 ≤ d) (x0 : Nat) (t0 : tyOK Γ (0, 4) x0) (r : mm) (h : fX4_forget Γ.2 σ x0 = some r) : CT l G yX4_forget cX4_forget 1 (none) d 0 0 [.ref (G.2.1 x0)] Γ σ (PP none Γ r) := by
  refine CT.ofWP (by decide) (Nat.le_of_ble_eq_true rfl) ?_
  have hQ : PP none Γ r none Γ r := PP.self
  generalize PP none Γ r = Q at hQ ⊢
  show WP l G yX4_forget cX4_forget 1 (none) d 0 0 Q 0 0 0 [(0, .ref (G.2.1 x0))] [] Γ σ
  unfold fX4_forget at h
  refine r_aload_n 0 dX4_forget_0 rfl ?_
  refine r_iconst (v := 0) dX4_forget_1 (by decide) ?_
  refine q_putI dX4_forget_2 fd_X4_63 t0 h (fun τ1 h => ?_)
  refine r_aload_n 0 dX4_forget_5 rfl ?_
  refine r_iconst (v := 0) dX4_forget_6 (by decide) ?_
  refine q_putI dX4_forget_7 fd_X4_66 t0 h (fun τ2 h => ?_)
  refine r_aload_n 0 dX4_forget_10 rfl ?_
  refine r_iconst (v := 0) dX4_forget_11 (by decide) ?_
  refine q_putI dX4_forget_12 fd_X4_69 t0 h (fun τ3 h => ?_)
  refine r_aload_n 0 dX4_forget_15 rfl ?_
  refine q_getR (e9 := (0, 2)) dX4_forget_16 fd_X4_52 t0 rfl h (fun r4 tr4 h => ?_)
  refine r_iconst (v := 0) dX4_forget_19 (by decide) ?_
  refine q_putI dX4_forget_20 fd_X4_72 tr4 h (fun τ5 h => ?_)
  refine r_aload_n 0 dX4_forget_23 rfl ?_
  refine r_iconst (v := 2) dX4_forget_24 (by decide) ?_
  refine q_putI dX4_forget_25 fd_X4_56 t0 h (fun τ6 h => ?_)
  refine r_aload_n 0 dX4_forget_28 rfl ?_
  refine r_bipush (v := 50) dX4_forget_29 (by decide) ?_
  refine q_putI dX4_forget_31 fd_X4_60 t0 h (fun τ7 h => ?_)
  refine r_aload_n 0 dX4_forget_34 rfl ?_
  refine r_iconst (v := 0) dX4_forget_35 (by decide) ?_
  refine q_putZ dX4_forget_36 fd_X4_75 t0 h (fun τ8 h => ?_)
  refine r_aload_n 0 dX4_forget_39 rfl ?_
  refine r_iconst (v := 0) dX4_forget_40 (by decide) ?_
  refine q_putZ dX4_forget_41 fd_X4_79 t0 h (fun τ9 h => ?_)
  obtain rfl := Option.some.inj h
  exact r_return dX4_forget_44 rfl hQ (Nat.le_refl _) (Nat.le_refl _)
