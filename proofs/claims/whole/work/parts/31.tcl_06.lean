/-! the walks, 6 -/
theorem kX5_readWish {l : Launch} {G : gg} {Γ : ly} {σ : mm} (d : Nat) (hdd : 3 ≤ d) (x0 : Nat) (t0 : tyOK Γ (0, 5) x0) (r : (Int32 × mm)) (h : fX5_readWish Γ.2 σ x0 = some r) : CT l G yX5_readWish cX5_readWish 1 (some .boolean) d 0 0 [.ref (G.2.1 x0)] Γ σ (PP (some (.int r.1)) Γ r.2) := by
  refine CT.ofWP (by decide) (Nat.le_of_ble_eq_true rfl) ?_
  have hQ : PP (some (.int r.1)) Γ r.2 (some (.int r.1)) Γ r.2 := PP.self
  generalize PP (some (.int r.1)) Γ r.2 = Q at hQ ⊢
  show WP l G yX5_readWish cX5_readWish 1 (some .boolean) d 0 0 Q 0 0 0 [(0, .ref (G.2.1 x0))] [] Γ σ
  unfold fX5_readWish at h
  refine r_aload_n 0 dX5_readWish_0 rfl ?_
  refine r_getI dX5_readWish_1 fd_X5_28 t0 ?_
  refine r_if_eq 16 dX5_readWish_4 (by decide) h (fun _ h => ?_) (fun _ h => ?_)
  · refine r_aload_n 0 dX5_readWish_16 rfl ?_
    refine q_getR (e9 := (0, 8)) dX5_readWish_17 fd_X5_9 t0 rfl h (fun r1 tr1 h => ?_)
    refine r_iconst (v := 0) dX5_readWish_20 (by decide) ?_
    refine r_bipush (v := 99) dX5_readWish_21 (by decide) ?_
    obtain ⟨v2, τ3, ev2, h⟩ := bd2_some h
    refine q_cVI [.int (0 : Int32), .int (99 : Int32)] dX5_readWish_23 cv_X5_133 (ci := 8) rfl rfl tr1 rfl rfl (Nat.le_of_ble_eq_true rfl) (by omega) (kX8_takeNumber (d - 1) (by omega) r1 (0 : Int32) (99 : Int32) tr1 (v2, τ3) ev2) ?_
    refine r_if_ne 31 dX5_readWish_26 (by decide) h (fun _ h => ?_) (fun _ h => ?_)
    · refine r_aload_n 0 dX5_readWish_31 rfl ?_
      refine r_iconst (v := 1) dX5_readWish_32 (by decide) ?_
      refine q_putZ dX5_readWish_33 fd_X5_28 t0 h (fun τ4 h => ?_)
      refine r_aload_n 0 dX5_readWish_36 rfl ?_
      refine q_getR (e9 := (0, 4)) dX5_readWish_37 fd_X5_15 t0 rfl h (fun r5 tr5 h => ?_)
      refine r_aload_n 0 dX5_readWish_40 rfl ?_
      refine q_getR (e9 := (0, 8)) dX5_readWish_41 fd_X5_9 t0 rfl h (fun r6 tr6 h => ?_)
      refine r_getI dX5_readWish_44 fd_X5_140 tr6 ?_
      refine q_putI dX5_readWish_47 fd_X5_210 tr5 h (fun τ7 h => ?_)
      refine r_iconst (v := 1) dX5_readWish_50 (by decide) ?_
      obtain rfl := Option.some.inj h
      exact r_zreturn dX5_readWish_51 rfl (by decide) hQ (Nat.le_refl _) (Nat.le_refl _)
    · refine r_iconst (v := 0) dX5_readWish_29 (by decide) ?_
      obtain rfl := Option.some.inj h
      exact r_zreturn dX5_readWish_30 rfl (by decide) hQ (Nat.le_refl _) (Nat.le_refl _)
  · refine r_aload_n 0 dX5_readWish_7 rfl ?_
    refine q_getR (e9 := (0, 8)) dX5_readWish_8 fd_X5_9 t0 rfl h (fun r8 tr8 h => ?_)
    refine r_iconst (v := 3) dX5_readWish_11 (by decide) ?_
    obtain ⟨v9, τ10, ev9, h⟩ := bd2_some h
    refine q_cVI [.int (3 : Int32)] dX5_readWish_12 cv_X5_104 (ci := 8) rfl rfl tr8 rfl rfl (Nat.le_of_ble_eq_true rfl) (by omega) (kX8_fails (d - 1) (by omega) r8 (3 : Int32) tr8 (v9, τ10) ev9) ?_
    obtain ⟨hbz, h⟩ := rZ_some h
    obtain rfl := Option.some.inj h
    exact r_zreturn dX5_readWish_15 rfl hbz hQ (Nat.le_refl _) (Nat.le_refl _)
theorem kX5_readLine {l : Launch} {G : gg} {Γ : ly} {σ : mm} (d : Nat) (hdd : 5 ≤ d) (x0 : Nat) (t0 : tyOK Γ (0, 5) x0) (r : (Int32 × mm)) (h : fX5_readLine Γ.2 σ x0 = some r) : CT l G yX5_readLine cX5_readLine 1 (some .boolean) d 0 0 [.ref (G.2.1 x0)] Γ σ (PP (some (.int r.1)) Γ r.2) := by
  refine CT.ofWP (by decide) (Nat.le_of_ble_eq_true rfl) ?_
  have hQ : PP (some (.int r.1)) Γ r.2 (some (.int r.1)) Γ r.2 := PP.self
  generalize PP (some (.int r.1)) Γ r.2 = Q at hQ ⊢
  show WP l G yX5_readLine cX5_readLine 1 (some .boolean) d 0 0 Q 0 0 0 [(0, .ref (G.2.1 x0))] [] Γ σ
  unfold fX5_readLine at h
  refine r_swm dX5_readLine_0 fw_X5_54 ?_
  refine r_aload_n 0 dX5_readLine_3 rfl ?_
  refine q_getR (e9 := (0, 8)) dX5_readLine_4 fd_X5_9 t0 rfl h (fun r1 tr1 h => ?_)
  refine q_getR (e9 := (100, 0)) dX5_readLine_7 fd_X5_60 tr1 rfl h (fun r2 tr2 h => ?_)
  refine q_cord dX5_readLine_10 cu_X5_64 rfl rfl tr2 (Nat.le_of_ble_eq_true rfl) (by omega) (k_ordinal (d - 1) r2 tr2) ?_
  refine q_swmld dX5_readLine_13 h (fun v3 h => ?_)
  rcases if_split h with ⟨q9, h⟩ | ⟨n0, h⟩
  · refine r_table (1 : Int32) 54 68 dX5_readLine_14 q9 (by decide) (by decide) rfl (by decide) ?_
    refine r_aload_n 0 dX5_readLine_68 rfl ?_
    obtain ⟨v4, τ5, ev4, h⟩ := bd2_some h
    refine q_cVI [] dX5_readLine_69 cv_X5_70 (ci := 5) rfl rfl t0 rfl rfl (Nat.le_of_ble_eq_true rfl) (by omega) (kX5_readPerson (d - 1) (by omega) x0 t0 (v4, τ5) ev4) ?_
    obtain ⟨hbz, h⟩ := rZ_some h
    obtain rfl := Option.some.inj h
    exact r_zreturn dX5_readLine_72 rfl hbz hQ (Nat.le_refl _) (Nat.le_refl _)
  rcases if_split h with ⟨q9, h⟩ | ⟨n1, h⟩
  · refine r_table (2 : Int32) 59 73 dX5_readLine_14 q9 (by decide) (by decide) rfl (by decide) ?_
    refine r_aload_n 0 dX5_readLine_73 rfl ?_
    refine r_aload_n 0 dX5_readLine_74 rfl ?_
    refine q_getR (e9 := (0, 4)) dX5_readLine_75 fd_X5_15 t0 rfl h (fun r6 tr6 h => ?_)
    refine q_getR (e9 := (1, 0)) dX5_readLine_78 fd_X5_73 tr6 rfl h (fun r7 tr7 h => ?_)
    obtain ⟨v8, τ9, ev8, h⟩ := bd2_some h
    refine q_cVI [.ref (G.2.1 r7)] dX5_readLine_81 cv_X5_76 (ci := 5) rfl rfl t0 rfl rfl (Nat.le_of_ble_eq_true rfl) (by omega) (kX5_readWarmth (d - 1) (by omega) x0 r7 t0 tr7 (v8, τ9) ev8) ?_
    obtain ⟨hbz, h⟩ := rZ_some h
    obtain rfl := Option.some.inj h
    exact r_zreturn dX5_readLine_84 rfl hbz hQ (Nat.le_refl _) (Nat.le_refl _)
  rcases if_split h with ⟨q9, h⟩ | ⟨n2, h⟩
  · refine r_table (3 : Int32) 71 85 dX5_readLine_14 q9 (by decide) (by decide) rfl (by decide) ?_
    refine r_aload_n 0 dX5_readLine_85 rfl ?_
    refine r_aload_n 0 dX5_readLine_86 rfl ?_
    refine q_getR (e9 := (0, 4)) dX5_readLine_87 fd_X5_15 t0 rfl h (fun r10 tr10 h => ?_)
    refine q_getR (e9 := (1, 0)) dX5_readLine_90 fd_X5_80 tr10 rfl h (fun r11 tr11 h => ?_)
    obtain ⟨v12, τ13, ev12, h⟩ := bd2_some h
    refine q_cVI [.ref (G.2.1 r11)] dX5_readLine_93 cv_X5_76 (ci := 5) rfl rfl t0 rfl rfl (Nat.le_of_ble_eq_true rfl) (by omega) (kX5_readWarmth (d - 1) (by omega) x0 r11 t0 tr11 (v12, τ13) ev12) ?_
    obtain ⟨hbz, h⟩ := rZ_some h
    obtain rfl := Option.some.inj h
    exact r_zreturn dX5_readLine_96 rfl hbz hQ (Nat.le_refl _) (Nat.le_refl _)
  rcases if_split h with ⟨q9, h⟩ | ⟨n3, h⟩
  · refine r_table (4 : Int32) 83 97 dX5_readLine_14 q9 (by decide) (by decide) rfl (by decide) ?_
    refine r_aload_n 0 dX5_readLine_97 rfl ?_
    obtain ⟨v14, τ15, ev14, h⟩ := bd2_some h
    refine q_cVI [] dX5_readLine_98 cv_X5_83 (ci := 5) rfl rfl t0 rfl rfl (Nat.le_of_ble_eq_true rfl) (by omega) (kX5_readGlass (d - 1) (by omega) x0 t0 (v14, τ15) ev14) ?_
    obtain ⟨hbz, h⟩ := rZ_some h
    obtain rfl := Option.some.inj h
    exact r_zreturn dX5_readLine_101 rfl hbz hQ (Nat.le_refl _) (Nat.le_refl _)
  rcases if_split h with ⟨q9, h⟩ | ⟨n4, h⟩
  · refine r_table (5 : Int32) 88 102 dX5_readLine_14 q9 (by decide) (by decide) rfl (by decide) ?_
    refine r_aload_n 0 dX5_readLine_102 rfl ?_
    obtain ⟨v16, τ17, ev16, h⟩ := bd2_some h
    refine q_cVI [] dX5_readLine_103 cv_X5_86 (ci := 5) rfl rfl t0 rfl rfl (Nat.le_of_ble_eq_true rfl) (by omega) (kX5_readDamp (d - 1) (by omega) x0 t0 (v16, τ17) ev16) ?_
    obtain ⟨hbz, h⟩ := rZ_some h
    obtain rfl := Option.some.inj h
    exact r_zreturn dX5_readLine_106 rfl hbz hQ (Nat.le_refl _) (Nat.le_refl _)
  rcases if_split h with ⟨q9, h⟩ | ⟨n5, h⟩
  · refine r_table (6 : Int32) 93 107 dX5_readLine_14 q9 (by decide) (by decide) rfl (by decide) ?_
    refine r_aload_n 0 dX5_readLine_107 rfl ?_
    obtain ⟨v18, τ19, ev18, h⟩ := bd2_some h
    refine q_cVI [] dX5_readLine_108 cv_X5_89 (ci := 5) rfl rfl t0 rfl rfl (Nat.le_of_ble_eq_true rfl) (by omega) (kX5_readGood (d - 1) (by omega) x0 t0 (v18, τ19) ev18) ?_
    obtain ⟨hbz, h⟩ := rZ_some h
    obtain rfl := Option.some.inj h
    exact r_zreturn dX5_readLine_111 rfl hbz hQ (Nat.le_refl _) (Nat.le_refl _)
  rcases if_split h with ⟨q9, h⟩ | ⟨n6, h⟩
  · refine r_table (7 : Int32) 98 112 dX5_readLine_14 q9 (by decide) (by decide) rfl (by decide) ?_
    refine r_aload_n 0 dX5_readLine_112 rfl ?_
    obtain ⟨v20, τ21, ev20, h⟩ := bd2_some h
    refine q_cVI [] dX5_readLine_113 cv_X5_92 (ci := 5) rfl rfl t0 rfl rfl (Nat.le_of_ble_eq_true rfl) (by omega) (kX5_readGrace (d - 1) (by omega) x0 t0 (v20, τ21) ev20) ?_
    obtain ⟨hbz, h⟩ := rZ_some h
    obtain rfl := Option.some.inj h
    exact r_zreturn dX5_readLine_116 rfl hbz hQ (Nat.le_refl _) (Nat.le_refl _)
  rcases if_split h with ⟨q9, h⟩ | ⟨n7, h⟩
  · refine r_table (8 : Int32) 103 117 dX5_readLine_14 q9 (by decide) (by decide) rfl (by decide) ?_
    refine r_aload_n 0 dX5_readLine_117 rfl ?_
    obtain ⟨v22, τ23, ev22, h⟩ := bd2_some h
    refine q_cVI [] dX5_readLine_118 cv_X5_95 (ci := 5) rfl rfl t0 rfl rfl (Nat.le_of_ble_eq_true rfl) (by omega) (kX5_readWish (d - 1) (by omega) x0 t0 (v22, τ23) ev22) ?_
    obtain ⟨hbz, h⟩ := rZ_some h
    obtain rfl := Option.some.inj h
    exact r_zreturn dX5_readLine_121 rfl hbz hQ (Nat.le_refl _) (Nat.le_refl _)
  rcases if_split h with ⟨q9, h⟩ | ⟨n8, h⟩
  · refine r_table (9 : Int32) 108 122 dX5_readLine_14 q9 (by decide) (by decide) rfl (by decide) ?_
    refine r_aload_n 0 dX5_readLine_122 rfl ?_
    obtain ⟨v24, τ25, ev24, h⟩ := bd2_some h
    refine q_cVI [] dX5_readLine_123 cv_X5_98 (ci := 5) rfl rfl t0 rfl rfl (Nat.le_of_ble_eq_true rfl) (by omega) (kX5_readEarly (d - 1) (by omega) x0 t0 (v24, τ25) ev24) ?_
    obtain ⟨hbz, h⟩ := rZ_some h
    obtain rfl := Option.some.inj h
    exact r_zreturn dX5_readLine_126 rfl hbz hQ (Nat.le_refl _) (Nat.le_refl _)
  rcases if_split h with ⟨q9, h⟩ | ⟨n9, h⟩
  · refine r_table (10 : Int32) 113 127 dX5_readLine_14 q9 (by decide) (by decide) rfl (by decide) ?_
    refine r_aload_n 0 dX5_readLine_127 rfl ?_
    obtain ⟨v26, τ27, ev26, h⟩ := bd2_some h
    refine q_cVI [] dX5_readLine_128 cv_X5_101 (ci := 5) rfl rfl t0 rfl rfl (Nat.le_of_ble_eq_true rfl) (by omega) (kX5_readLevel (d - 1) (by omega) x0 t0 (v26, τ27) ev26) ?_
    obtain ⟨hbz, h⟩ := rZ_some h
    obtain rfl := Option.some.inj h
    exact r_zreturn dX5_readLine_131 rfl hbz hQ (Nat.le_refl _) (Nat.le_refl _)
  have n0 := ne_int n0 (z := 1) rfl
  have n1 := ne_int n1 (z := 2) rfl
  have n2 := ne_int n2 (z := 3) rfl
  have n3 := ne_int n3 (z := 4) rfl
  have n4 := ne_int n4 (z := 5) rfl
  have n5 := ne_int n5 (z := 6) rfl
  have n6 := ne_int n6 (z := 7) rfl
  have n7 := ne_int n7 (z := 8) rfl
  have n8 := ne_int n8 (z := 9) rfl
  have n9 := ne_int n9 (z := 10) rfl
  refine r_tableD 132 dX5_readLine_14 (by omega) (by decide) ?_
  refine r_aload_n 0 dX5_readLine_132 rfl ?_
  refine q_getR (e9 := (0, 8)) dX5_readLine_133 fd_X5_9 t0 rfl h (fun r28 tr28 h => ?_)
  refine r_iconst (v := 1) dX5_readLine_136 (by decide) ?_
  obtain ⟨v29, τ30, ev29, h⟩ := bd2_some h
  refine q_cVI [.int (1 : Int32)] dX5_readLine_137 cv_X5_104 (ci := 8) rfl rfl tr28 rfl rfl (Nat.le_of_ble_eq_true rfl) (by omega) (kX8_fails (d - 1) (by omega) r28 (1 : Int32) tr28 (v29, τ30) ev29) ?_
  obtain ⟨hbz, h⟩ := rZ_some h
  obtain rfl := Option.some.inj h
  exact r_zreturn dX5_readLine_140 rfl hbz hQ (Nat.le_refl _) (Nat.le_refl _)
theorem kX8_begin {l : Launch} {G : gg} {Γ : ly} {σ : mm} (d : Nat) (hdd : 0 ≤ d) (x0 : Nat) (x1 : Int32) (t0 : tyOK Γ (0, 8) x0) (r : mm) (h : fX8_begin Γ.2 σ x0 x1 = some r) : CT l G yX8_begin cX8_begin 2 (none) d 0 0 [.ref (G.2.1 x0), .int x1] Γ σ (PP none Γ r) := by
  refine CT.ofWP (by decide) (Nat.le_of_ble_eq_true rfl) ?_
  have hQ : PP none Γ r none Γ r := PP.self
  generalize PP none Γ r = Q at hQ ⊢
  show WP l G yX8_begin cX8_begin 2 (none) d 0 0 Q 0 0 0 [(0, .ref (G.2.1 x0)), (1, .int x1)] [] Γ σ
  unfold fX8_begin at h
  refine r_aload_n 0 dX8_begin_0 rfl ?_
  refine r_iload_n 1 dX8_begin_1 rfl ?_
  refine q_putI dX8_begin_2 fd_X8_26 t0 h (fun τ1 h => ?_)
  refine r_aload_n 0 dX8_begin_5 rfl ?_
  refine r_iconst (v := 0) dX8_begin_6 (by decide) ?_
  refine q_putI dX8_begin_7 fd_X8_29 t0 h (fun τ2 h => ?_)
  refine r_aload_n 0 dX8_begin_10 rfl ?_
  refine r_iconst (v := 0) dX8_begin_11 (by decide) ?_
  refine q_putI dX8_begin_12 fd_X8_32 t0 h (fun τ3 h => ?_)
  refine r_aload_n 0 dX8_begin_15 rfl ?_
  refine r_iconst (v := 0) dX8_begin_16 (by decide) ?_
  refine q_putI dX8_begin_17 fd_X8_35 t0 h (fun τ4 h => ?_)
  obtain rfl := Option.some.inj h
  exact r_return dX8_begin_20 rfl hQ (Nat.le_refl _) (Nat.le_refl _)
theorem tX8_takeSemicolon_b26 {l : Launch} {G : gg} {Γ : ly} {d : Nat} {Q : Option Value → ly → mm → Prop} (hdd : 2 ≤ d) (σ : mm)  (s0 : Int32)   (r : (Int32 × mm)) (h : fX8_takeSemicolon_b26 Γ.2 σ s0 = some r) (hQ : Q (some (.int r.1)) Γ r.2) : WP l G yX8_takeSemicolon cX8_takeSemicolon 1 (some .boolean) d 0 0 Q 0 0 26 [] [.int s0] Γ σ := by
  unfold fX8_takeSemicolon_b26 at h
  obtain ⟨hbz, h⟩ := rZ_some h
  obtain rfl := Option.some.inj h
  exact r_zreturn dX8_takeSemicolon_26 rfl hbz hQ (Nat.le_refl _) (Nat.le_refl _)
theorem tX8_takeSemicolon_b21 {l : Launch} {G : gg} {Γ : ly} {d : Nat} {Q : Option Value → ly → mm → Prop} (hdd : 2 ≤ d) (σ : mm)     (r : (Int32 × mm)) (h : fX8_takeSemicolon_b21 Γ.2 σ  = some r) (hQ : Q (some (.int r.1)) Γ r.2) : WP l G yX8_takeSemicolon cX8_takeSemicolon 1 (some .boolean) d 0 0 Q 0 0 21 [] [] Γ σ := by
  unfold fX8_takeSemicolon_b21 at h
  refine r_iconst (v := 1) dX8_takeSemicolon_21 (by decide) ?_
  refine r_goto 26 dX8_takeSemicolon_22 (by decide) ?_
  exact tX8_takeSemicolon_b26 hdd σ (1 : Int32)  _ h hQ
theorem kX8_takeSemicolon {l : Launch} {G : gg} {Γ : ly} {σ : mm} (d : Nat) (hdd : 2 ≤ d) (x0 : Nat) (t0 : tyOK Γ (0, 8) x0) (r : (Int32 × mm)) (h : fX8_takeSemicolon Γ.2 σ x0 = some r) : CT l G yX8_takeSemicolon cX8_takeSemicolon 1 (some .boolean) d 0 0 [.ref (G.2.1 x0)] Γ σ (PP (some (.int r.1)) Γ r.2) := by
  refine CT.ofWP (by decide) (Nat.le_of_ble_eq_true rfl) ?_
  have hQ : PP (some (.int r.1)) Γ r.2 (some (.int r.1)) Γ r.2 := PP.self
  generalize PP (some (.int r.1)) Γ r.2 = Q at hQ ⊢
  show WP l G yX8_takeSemicolon cX8_takeSemicolon 1 (some .boolean) d 0 0 Q 0 0 0 [(0, .ref (G.2.1 x0))] [] Γ σ
  unfold fX8_takeSemicolon at h
  refine r_aload_n 0 dX8_takeSemicolon_0 rfl ?_
  obtain ⟨τ1, eτ1, h⟩ := bd0_some h
  refine q_cVV [] dX8_takeSemicolon_1 cv_X8_62 (ci := 8) rfl rfl t0 rfl rfl (Nat.le_of_ble_eq_true rfl) (by omega) (kX8_next (d - 1) (by omega) x0 t0 τ1 eτ1) ?_
  refine r_aload_n 0 dX8_takeSemicolon_4 rfl ?_
  refine r_getI dX8_takeSemicolon_5 fd_X8_41 t0 ?_
  refine r_bipush (v := 59) dX8_takeSemicolon_8 (by decide) ?_
  refine r_icmp_eq 21 dX8_takeSemicolon_10 (by decide) h (fun _ h => ?_) (fun _ h => ?_)
  · refine r_pick [] rfl ?_
    exact tX8_takeSemicolon_b21 hdd τ1  _ h hQ
  · refine r_aload_n 0 dX8_takeSemicolon_13 rfl ?_
    refine r_iconst (v := 1) dX8_takeSemicolon_14 (by decide) ?_
    obtain ⟨v2, τ3, ev2, h⟩ := bd2_some h
    refine q_cVI [.int (1 : Int32)] dX8_takeSemicolon_15 cv_X8_65 (ci := 8) rfl rfl t0 rfl rfl (Nat.le_of_ble_eq_true rfl) (by omega) (kX8_fails (d - 1) (by omega) x0 (1 : Int32) t0 (v2, τ3) ev2) ?_
    refine r_if_eq 25 dX8_takeSemicolon_18 (by decide) h (fun _ h => ?_) (fun _ h => ?_)
    · refine r_iconst (v := 0) dX8_takeSemicolon_25 (by decide) ?_
      refine r_pick [] rfl ?_
      exact tX8_takeSemicolon_b26 hdd τ3 (0 : Int32)  _ h hQ
    · refine r_pick [] rfl ?_
      exact tX8_takeSemicolon_b21 hdd τ3  _ h hQ
theorem sX5_read_L36 {l : Launch} {G : gg} {Γ : ly} {d : Nat} {Q : Option Value → ly → mm → Prop} (hdd : 6 ≤ d) (x0 : Nat) (t0 : tyOK Γ (0, 5) x0) {K : (mm ⊕ (Int32 × mm)) → Prop} (kx0 : ∀ (σ9 : mm), K (.inl σ9) → WP l G yX5_read cX5_read 2 (some .int) d 0 0 Q 0 0 70 [(0, .ref (G.2.1 x0))] [] Γ σ9) (kx1 : ∀ (x1 : Int32) (σ9 : mm), K (.inr (x1, σ9)) → WP l G yX5_read cX5_read 2 (some .int) d 0 0 Q 0 0 93 [(1, .int x1)] [] Γ σ9) : ∀ (N : Nat) (s : (Int32 × mm)) (b : (mm ⊕ (Int32 × mm))), loopN (fX5_read_L36 Γ.2 x0) N s = some b → K b → WP l G yX5_read cX5_read 2 (some .int) d 0 0 Q 0 0 36 [(0, .ref (G.2.1 x0)), (1, .int s.1)] [] Γ s.2 := by
  refine r_loop (f := fX5_read_L36 Γ.2 x0) (hlv := fun s => [(0, .ref (G.2.1 x0)), (1, .int s.1)]) (hsg := fun s => s.2) ?_
  rintro ⟨x1, σ⟩ r h hb hx
  have hb : ∀ (x1 : Int32) (σ : mm), r = .inl (x1, σ) → WP l G yX5_read cX5_read 2 (some .int) d 0 0 Q 0 0 36 [(0, .ref (G.2.1 x0)), (1, .int x1)] [] Γ σ := fun x1 σ e => hb (x1, σ) e
  have hx0 : ∀ (σ9 : mm), r = .inr (.inl σ9) → WP l G yX5_read cX5_read 2 (some .int) d 0 0 Q 0 0 70 [(0, .ref (G.2.1 x0))] [] Γ σ9 := fun σ9 e => kx0 σ9 (hx _ e)
  have hx1 : ∀ (x1 : Int32) (σ9 : mm), r = .inr (.inr (x1, σ9)) → WP l G yX5_read cX5_read 2 (some .int) d 0 0 Q 0 0 93 [(1, .int x1)] [] Γ σ9 := fun x1 σ9 e => kx1 x1 σ9 (hx _ e)
  unfold fX5_read_L36 at h
  have h := un2_some h
  show WP l G yX5_read cX5_read 2 (some .int) d 0 0 Q 0 0 36 [(0, .ref (G.2.1 x0)), (1, .int x1)] [] Γ σ
  refine r_aload_n 0 dX5_read_36 rfl ?_
  refine q_getR (e9 := (0, 8)) dX5_read_37 fd_X5_9 t0 rfl h (fun r1 tr1 h => ?_)
  refine r_getI dX5_read_40 fd_X5_40 tr1 ?_
  refine r_if_eq 93 dX5_read_43 (by decide) h (fun _ h => ?_) (fun _ h => ?_)
  · obtain rfl := Option.some.inj h
    refine r_pick [1] rfl ?_
    exact hx1 _ _ rfl
  · refine r_iload_n 1 dX5_read_46 rfl ?_
    refine r_sipush (v := 900) dX5_read_47 (by decide) ?_
    refine r_icmp_ge 93 dX5_read_50 (by decide) h (fun _ h => ?_) (fun _ h => ?_)
    · obtain rfl := Option.some.inj h
      refine r_pick [1] rfl ?_
      exact hx1 _ _ rfl
    · refine r_aload_n 0 dX5_read_53 rfl ?_
      obtain ⟨v2, τ3, ev2, h⟩ := bd2_some h
      refine q_cVI [] dX5_read_54 cv_X5_44 (ci := 5) rfl rfl t0 rfl rfl (Nat.le_of_ble_eq_true rfl) (by omega) (kX5_readLine (d - 1) (by omega) x0 t0 (v2, τ3) ev2) ?_
      refine r_if_eq 70 dX5_read_57 (by decide) h (fun _ h => ?_) (fun _ h => ?_)
      · obtain rfl := Option.some.inj h
        refine r_pick [0] rfl ?_
        exact hx0 _ rfl
      · refine r_aload_n 0 dX5_read_60 rfl ?_
        refine q_getR (e9 := (0, 8)) dX5_read_61 fd_X5_9 t0 rfl h (fun r4 tr4 h => ?_)
        obtain ⟨v5, τ6, ev5, h⟩ := bd2_some h
        refine q_cVI [] dX5_read_64 cv_X5_48 (ci := 8) rfl rfl tr4 rfl rfl (Nat.le_of_ble_eq_true rfl) (by omega) (kX8_takeSemicolon (d - 1) (by omega) r4 tr4 (v5, τ6) ev5) ?_
        refine r_if_ne 80 dX5_read_67 (by decide) h (fun _ h => ?_) (fun _ h => ?_)
        · refine q_iinc (v := 1) 1 (fun v7 => [(1, .int v7), (0, .ref (G.2.1 x0))]) dX5_read_80 rfl (by decide) (by decide) (fun _ => rfl) h (fun v7 h => ?_)
          refine r_aload_n 1 dX5_read_83 rfl ?_
          refine q_getR (e9 := (0, 8)) dX5_read_84 fd_X5_9 t0 rfl h (fun r8 tr8 h => ?_)
          obtain ⟨τ9, eτ9, h⟩ := bd0_some h
          refine q_cVV [] dX5_read_87 cv_X5_37 (ci := 8) rfl rfl tr8 rfl rfl (Nat.le_of_ble_eq_true rfl) (by omega) (kX8_next (d - 1) (by omega) r8 tr8 τ9 eτ9) ?_
          refine r_goto 36 dX5_read_90 (by decide) ?_
          obtain rfl := Option.some.inj h
          refine r_pick [1, 0] rfl ?_
          exact hb _ _ rfl
        · obtain rfl := Option.some.inj h
          refine r_pick [0] rfl ?_
          exact hx0 _ rfl
theorem tX5_read_b70 {l : Launch} {G : gg} {Γ : ly} {d : Nat} {Q : Option Value → ly → mm → Prop} (hdd : 6 ≤ d) (σ : mm) (x0 : Nat)  (t0 : tyOK Γ (0, 5) x0)  (r : (Int32 × mm)) (h : fX5_read_b70 Γ.2 σ x0 = some r) (hQ : Q (some (.int r.1)) Γ r.2) : WP l G yX5_read cX5_read 2 (some .int) d 0 0 Q 0 0 70 [(0, .ref (G.2.1 x0))] [] Γ σ := by
  unfold fX5_read_b70 at h
  refine r_iconst (v := -1) dX5_read_70 (by decide) ?_
  refine r_aload_n 0 dX5_read_71 rfl ?_
  refine q_getR (e9 := (0, 8)) dX5_read_72 fd_X5_9 t0 rfl h (fun r1 tr1 h => ?_)
  refine r_getI dX5_read_75 fd_X5_51 tr1 ?_
  refine r_isub dX5_read_78 ?_
  obtain rfl := Option.some.inj h
  exact r_ireturn dX5_read_79 rfl hQ (Nat.le_refl _) (Nat.le_refl _)
theorem tX5_read_b93 {l : Launch} {G : gg} {Γ : ly} {d : Nat} {Q : Option Value → ly → mm → Prop} (hdd : 6 ≤ d) (σ : mm) (x1 : Int32)    (r : (Int32 × mm)) (h : fX5_read_b93 Γ.2 σ x1 = some r) (hQ : Q (some (.int r.1)) Γ r.2) : WP l G yX5_read cX5_read 2 (some .int) d 0 0 Q 0 0 93 [(1, .int x1)] [] Γ σ := by
  unfold fX5_read_b93 at h
  refine r_iload_n 0 dX5_read_93 rfl ?_
  obtain rfl := Option.some.inj h
  exact r_ireturn dX5_read_94 rfl hQ (Nat.le_refl _) (Nat.le_refl _)
theorem kX5_read {l : Launch} {G : gg} {Γ : ly} {σ : mm} (d : Nat) (hdd : 6 ≤ d) (x0 : Nat) (t0 : tyOK Γ (0, 5) x0) (r : (Int32 × mm)) (h : fX5_read Γ.2 σ x0 = some r) : CT l G yX5_read cX5_read 2 (some .int) d 0 0 [.ref (G.2.1 x0)] Γ σ (PP (some (.int r.1)) Γ r.2) := by
  refine CT.ofWP (by decide) (Nat.le_of_ble_eq_true rfl) ?_
  have hQ : PP (some (.int r.1)) Γ r.2 (some (.int r.1)) Γ r.2 := PP.self
  generalize PP (some (.int r.1)) Γ r.2 = Q at hQ ⊢
  show WP l G yX5_read cX5_read 2 (some .int) d 0 0 Q 0 0 0 [(0, .ref (G.2.1 x0))] [] Γ σ
  unfold fX5_read at h
  refine r_aload_n 0 dX5_read_0 rfl ?_
  refine q_getR (e9 := (0, 4)) dX5_read_1 fd_X5_15 t0 rfl h (fun r1 tr1 h => ?_)
  obtain ⟨τ2, eτ2, h⟩ := bd0_some h
  refine q_cVV [] dX5_read_4 cv_X5_19 (ci := 4) rfl rfl tr1 rfl rfl (Nat.le_of_ble_eq_true rfl) (by omega) (kX4_forget (d - 1) (by omega) r1 tr1 τ2 eτ2) ?_
  refine r_aload_n 0 dX5_read_7 rfl ?_
  refine r_iconst (v := 0) dX5_read_8 (by decide) ?_
  refine q_putZ dX5_read_9 fd_X5_24 t0 h (fun τ3 h => ?_)
  refine r_aload_n 0 dX5_read_12 rfl ?_
  refine r_iconst (v := 0) dX5_read_13 (by decide) ?_
  refine q_putZ dX5_read_14 fd_X5_28 t0 h (fun τ4 h => ?_)
  refine r_aload_n 0 dX5_read_17 rfl ?_
  refine q_getR (e9 := (0, 8)) dX5_read_18 fd_X5_9 t0 rfl h (fun r5 tr5 h => ?_)
  refine r_sipush (v := 900) dX5_read_21 (by decide) ?_
  obtain ⟨τ6, eτ6, h⟩ := bd0_some h
  refine q_cVV [.int (900 : Int32)] dX5_read_24 cv_X5_31 (ci := 8) rfl rfl tr5 rfl rfl (Nat.le_of_ble_eq_true rfl) (by omega) (kX8_begin (d - 1) (by omega) r5 (900 : Int32) tr5 τ6 eτ6) ?_
  refine r_iconst (v := 0) dX5_read_27 (by decide) ?_
  refine r_istore_n (lv' := [(1, .int (0 : Int32)), (0, .ref (G.2.1 x0))]) dX5_read_28 (by decide) rfl ?_
  refine r_aload_n 1 dX5_read_29 rfl ?_
  refine q_getR (e9 := (0, 8)) dX5_read_30 fd_X5_9 t0 rfl h (fun r7 tr7 h => ?_)
  obtain ⟨τ8, eτ8, h⟩ := bd0_some h
  refine q_cVV [] dX5_read_33 cv_X5_37 (ci := 8) rfl rfl tr7 rfl rfl (Nat.le_of_ble_eq_true rfl) (by omega) (kX8_next (d - 1) (by omega) r7 tr7 τ8 eτ8) ?_
  obtain ⟨b9, eb9, h⟩ := bd0_some h
  refine r_pick [1, 0] rfl ?_
  refine sX5_read_L36 hdd x0 t0 (K := fun b => b = b9) ?_ ?_ 1000 ((0 : Int32), τ8) b9 eb9 rfl
  · rintro τ10 rfl
    have h := cs2_0 h
    exact tX5_read_b70 hdd τ10 x0 t0 _ h hQ
  · rintro v11 τ12 rfl
    have h := cs2_1 h
    have h := un2_some h
    exact tX5_read_b93 hdd τ12 v11  _ h hQ
theorem kX6_note {l : Launch} {G : gg} {Γ : ly} {σ : mm} (d : Nat) (hdd : 0 ≤ d) (x0 : Nat) (x1 : Int32) (x2 : Int32) (x3 : Int32) (t0 : tyOK Γ (0, 6) x0) (r : (Int32 × mm)) (h : fX6_note Γ.2 σ x0 x1 x2 x3 = some r) : CT l G yX6_note cX6_note 4 (some .boolean) d 0 0 [.ref (G.2.1 x0), .int x1, .int x2, .int x3] Γ σ (PP (some (.int r.1)) Γ r.2) := by
  refine CT.ofWP (by decide) (Nat.le_of_ble_eq_true rfl) ?_
  have hQ : PP (some (.int r.1)) Γ r.2 (some (.int r.1)) Γ r.2 := PP.self
  generalize PP (some (.int r.1)) Γ r.2 = Q at hQ ⊢
  show WP l G yX6_note cX6_note 4 (some .boolean) d 0 0 Q 0 0 0 [(0, .ref (G.2.1 x0)), (1, .int x1), (2, .int x2), (3, .int x3)] [] Γ σ
  unfold fX6_note at h
  refine r_aload_n 0 dX6_note_0 rfl ?_
  refine q_getR (e9 := (1, 0)) dX6_note_1 fd_X6_11 t0 rfl h (fun r1 tr1 h => ?_)
  refine r_aload_n 0 dX6_note_4 rfl ?_
  refine r_getI dX6_note_5 fd_X6_35 t0 ?_
  refine r_iload_n 1 dX6_note_8 rfl ?_
  refine q_iast dX6_note_9 tr1 h (fun τ2 h => ?_)
  refine r_aload_n 0 dX6_note_10 rfl ?_
  refine q_getR (e9 := (1, 0)) dX6_note_11 fd_X6_15 t0 rfl h (fun r3 tr3 h => ?_)
  refine r_aload_n 0 dX6_note_14 rfl ?_
  refine r_getI dX6_note_15 fd_X6_35 t0 ?_
  refine r_iload_n 2 dX6_note_18 rfl ?_
  refine q_iast dX6_note_19 tr3 h (fun τ4 h => ?_)
  refine r_aload_n 0 dX6_note_20 rfl ?_
  refine q_getR (e9 := (1, 0)) dX6_note_21 fd_X6_18 t0 rfl h (fun r5 tr5 h => ?_)
  refine r_aload_n 0 dX6_note_24 rfl ?_
  refine r_getI dX6_note_25 fd_X6_35 t0 ?_
  refine r_iload_n 3 dX6_note_28 rfl ?_
  refine q_iast dX6_note_29 tr5 h (fun τ6 h => ?_)
  refine r_iconst (v := 1) dX6_note_30 (by decide) ?_
  obtain rfl := Option.some.inj h
  exact r_zreturn dX6_note_31 rfl (by decide) hQ (Nat.le_refl _) (Nat.le_refl _)
theorem tX6_takeAct_b34 {l : Launch} {G : gg} {Γ : ly} {d : Nat} {Q : Option Value → ly → mm → Prop} (hdd : 3 ≤ d) (σ : mm)  (s0 : Int32)   (r : (Int32 × mm)) (h : fX6_takeAct_b34 Γ.2 σ s0 = some r) (hQ : Q (some (.int r.1)) Γ r.2) : WP l G yX6_takeAct cX6_takeAct 5 (some .boolean) d 0 0 Q 0 0 34 [] [.int s0] Γ σ := by
  unfold fX6_takeAct_b34 at h
  obtain ⟨hbz, h⟩ := rZ_some h
  obtain rfl := Option.some.inj h
  exact r_zreturn dX6_takeAct_34 rfl hbz hQ (Nat.le_refl _) (Nat.le_refl _)
theorem tX6_takeAct_b33 {l : Launch} {G : gg} {Γ : ly} {d : Nat} {Q : Option Value → ly → mm → Prop} (hdd : 3 ≤ d) (σ : mm)     (r : (Int32 × mm)) (h : fX6_takeAct_b33 Γ.2 σ  = some r) (hQ : Q (some (.int r.1)) Γ r.2) : WP l G yX6_takeAct cX6_takeAct 5 (some .boolean) d 0 0 Q 0 0 33 [] [] Γ σ := by
  unfold fX6_takeAct_b33 at h
  refine r_iconst (v := 0) dX6_takeAct_33 (by decide) ?_
  exact tX6_takeAct_b34 hdd σ (0 : Int32)  _ h hQ
theorem kX6_takeAct {l : Launch} {G : gg} {Γ : ly} {σ : mm} (d : Nat) (hdd : 3 ≤ d) (x0 : Nat) (x1 : Int32) (x2 : Int32) (x3 : Int32) (x4 : Int32) (t0 : tyOK Γ (0, 6) x0) (r : (Int32 × mm)) (h : fX6_takeAct Γ.2 σ x0 x1 x2 x3 x4 = some r) : CT l G yX6_takeAct cX6_takeAct 5 (some .boolean) d 0 0 [.ref (G.2.1 x0), .int x1, .int x2, .int x3, .int x4] Γ σ (PP (some (.int r.1)) Γ r.2) := by
  refine CT.ofWP (by decide) (Nat.le_of_ble_eq_true rfl) ?_
  have hQ : PP (some (.int r.1)) Γ r.2 (some (.int r.1)) Γ r.2 := PP.self
  generalize PP (some (.int r.1)) Γ r.2 = Q at hQ ⊢
  show WP l G yX6_takeAct cX6_takeAct 5 (some .boolean) d 0 0 Q 0 0 0 [(0, .ref (G.2.1 x0)), (1, .int x1), (2, .int x2), (3, .int x3), (4, .int x4)] [] Γ σ
  unfold fX6_takeAct at h
  refine r_aload_n 0 dX6_takeAct_0 rfl ?_
  refine q_getR (e9 := (0, 8)) dX6_takeAct_1 fd_X6_21 t0 rfl h (fun r1 tr1 h => ?_)
  refine r_iload_n 3 dX6_takeAct_4 rfl ?_
  refine r_iload 4 dX6_takeAct_5 rfl ?_
  obtain ⟨v2, τ3, ev2, h⟩ := bd2_some h
  refine q_cVI [.int x3, .int x4] dX6_takeAct_7 cv_X6_106 (ci := 8) rfl rfl tr1 rfl rfl (Nat.le_of_ble_eq_true rfl) (by omega) (kX8_takeNumber (d - 1) (by omega) r1 x3 x4 tr1 (v2, τ3) ev2) ?_
  refine r_if_eq 33 dX6_takeAct_10 (by decide) h (fun _ h => ?_) (fun _ h => ?_)
  · refine r_pick [] rfl ?_
    exact tX6_takeAct_b33 hdd τ3  _ h hQ
  · refine r_aload_n 0 dX6_takeAct_13 rfl ?_
    refine r_iload_n 1 dX6_takeAct_14 rfl ?_
    refine r_iload_n 2 dX6_takeAct_15 rfl ?_
    refine r_aload_n 0 dX6_takeAct_16 rfl ?_
    refine q_getR (e9 := (0, 8)) dX6_takeAct_17 fd_X6_21 t0 rfl h (fun r4 tr4 h => ?_)
    refine r_getI dX6_takeAct_20 fd_X6_110 tr4 ?_
    obtain ⟨v5, τ6, ev5, h⟩ := bd2_some h
    refine q_cVI [.int x1, .int x2, .int (τ3.1 r4 6)] dX6_takeAct_23 cv_X6_102 (ci := 6) rfl rfl t0 rfl rfl (Nat.le_of_ble_eq_true rfl) (by omega) (kX6_note (d - 1) (by omega) x0 x1 x2 (τ3.1 r4 6) t0 (v5, τ6) ev5) ?_
    refine r_if_eq 33 dX6_takeAct_26 (by decide) h (fun _ h => ?_) (fun _ h => ?_)
    · refine r_pick [] rfl ?_
      exact tX6_takeAct_b33 hdd τ6  _ h hQ
    · refine r_iconst (v := 1) dX6_takeAct_29 (by decide) ?_
      refine r_goto 34 dX6_takeAct_30 (by decide) ?_
      refine r_pick [] rfl ?_
      exact tX6_takeAct_b34 hdd τ6 (1 : Int32)  _ h hQ
theorem kX6_readActOfGlass {l : Launch} {G : gg} {Γ : ly} {σ : mm} (d : Nat) (hdd : 4 ≤ d) (x0 : Nat) (x1 : Int32) (t0 : tyOK Γ (0, 6) x0) (r : (Int32 × mm)) (h : fX6_readActOfGlass Γ.2 σ x0 x1 = some r) : CT l G yX6_readActOfGlass cX6_readActOfGlass 2 (some .boolean) d 0 0 [.ref (G.2.1 x0), .int x1] Γ σ (PP (some (.int r.1)) Γ r.2) := by
  refine CT.ofWP (by decide) (Nat.le_of_ble_eq_true rfl) ?_
  have hQ : PP (some (.int r.1)) Γ r.2 (some (.int r.1)) Γ r.2 := PP.self
  generalize PP (some (.int r.1)) Γ r.2 = Q at hQ ⊢
  show WP l G yX6_readActOfGlass cX6_readActOfGlass 2 (some .boolean) d 0 0 Q 0 0 0 [(0, .ref (G.2.1 x0)), (1, .int x1)] [] Γ σ
  unfold fX6_readActOfGlass at h
  refine r_swm dX6_readActOfGlass_0 fw_X6_93 ?_
  refine r_aload_n 0 dX6_readActOfGlass_3 rfl ?_
  refine q_getR (e9 := (0, 8)) dX6_readActOfGlass_4 fd_X6_21 t0 rfl h (fun r1 tr1 h => ?_)
  refine q_getR (e9 := (100, 0)) dX6_readActOfGlass_7 fd_X6_65 tr1 rfl h (fun r2 tr2 h => ?_)
  refine q_cord dX6_readActOfGlass_10 cu_X6_98 rfl rfl tr2 (Nat.le_of_ble_eq_true rfl) (by omega) (k_ordinal (d - 1) r2 tr2) ?_
  refine q_swmld dX6_readActOfGlass_13 h (fun v3 h => ?_)
  rcases if_split h with ⟨q9, h⟩ | ⟨n0, h⟩
  · refine r_table (14 : Int32) 26 40 dX6_readActOfGlass_14 q9 (by decide) (by decide) rfl (by decide) ?_
    refine r_aload_n 0 dX6_readActOfGlass_40 rfl ?_
    refine r_iconst (v := 3) dX6_readActOfGlass_41 (by decide) ?_
    refine r_iload_n 1 dX6_readActOfGlass_42 rfl ?_
    refine r_iconst (v := 0) dX6_readActOfGlass_43 (by decide) ?_
    refine r_iconst (v := 2) dX6_readActOfGlass_44 (by decide) ?_
    obtain ⟨v4, τ5, ev4, h⟩ := bd2_some h
    refine q_cVI [.int (3 : Int32), .int x1, .int (0 : Int32), .int (2 : Int32)] dX6_readActOfGlass_45 cv_X6_83 (ci := 6) rfl rfl t0 rfl rfl (Nat.le_of_ble_eq_true rfl) (by omega) (kX6_takeAct (d - 1) (by omega) x0 (3 : Int32) x1 (0 : Int32) (2 : Int32) t0 (v4, τ5) ev4) ?_
    obtain ⟨hbz, h⟩ := rZ_some h
    obtain rfl := Option.some.inj h
    exact r_zreturn dX6_readActOfGlass_48 rfl hbz hQ (Nat.le_refl _) (Nat.le_refl _)
  rcases if_split h with ⟨q9, h⟩ | ⟨n1, h⟩
  · refine r_table (15 : Int32) 35 49 dX6_readActOfGlass_14 q9 (by decide) (by decide) rfl (by decide) ?_
    refine r_aload_n 0 dX6_readActOfGlass_49 rfl ?_
    refine r_iconst (v := 4) dX6_readActOfGlass_50 (by decide) ?_
    refine r_iload_n 1 dX6_readActOfGlass_51 rfl ?_
    refine r_iconst (v := 1) dX6_readActOfGlass_52 (by decide) ?_
    refine r_bipush (v := 8) dX6_readActOfGlass_53 (by decide) ?_
    obtain ⟨v6, τ7, ev6, h⟩ := bd2_some h
    refine q_cVI [.int (4 : Int32), .int x1, .int (1 : Int32), .int (8 : Int32)] dX6_readActOfGlass_55 cv_X6_83 (ci := 6) rfl rfl t0 rfl rfl (Nat.le_of_ble_eq_true rfl) (by omega) (kX6_takeAct (d - 1) (by omega) x0 (4 : Int32) x1 (1 : Int32) (8 : Int32) t0 (v6, τ7) ev6) ?_
    obtain ⟨hbz, h⟩ := rZ_some h
    obtain rfl := Option.some.inj h
    exact r_zreturn dX6_readActOfGlass_58 rfl hbz hQ (Nat.le_refl _) (Nat.le_refl _)
  rcases if_split h with ⟨q9, h⟩ | ⟨n2, h⟩
  · refine r_table (16 : Int32) 45 59 dX6_readActOfGlass_14 q9 (by decide) (by decide) rfl (by decide) ?_
    refine r_aload_n 0 dX6_readActOfGlass_59 rfl ?_
    refine r_iconst (v := 5) dX6_readActOfGlass_60 (by decide) ?_
    refine r_iload_n 1 dX6_readActOfGlass_61 rfl ?_
    refine r_iconst (v := 1) dX6_readActOfGlass_62 (by decide) ?_
    refine r_sipush (v := 250) dX6_readActOfGlass_63 (by decide) ?_
    obtain ⟨v8, τ9, ev8, h⟩ := bd2_some h
    refine q_cVI [.int (5 : Int32), .int x1, .int (1 : Int32), .int (250 : Int32)] dX6_readActOfGlass_66 cv_X6_83 (ci := 6) rfl rfl t0 rfl rfl (Nat.le_of_ble_eq_true rfl) (by omega) (kX6_takeAct (d - 1) (by omega) x0 (5 : Int32) x1 (1 : Int32) (250 : Int32) t0 (v8, τ9) ev8) ?_
    obtain ⟨hbz, h⟩ := rZ_some h
    obtain rfl := Option.some.inj h
    exact r_zreturn dX6_readActOfGlass_69 rfl hbz hQ (Nat.le_refl _) (Nat.le_refl _)
  have n0 := ne_int n0 (z := 14) rfl
  have n1 := ne_int n1 (z := 15) rfl
  have n2 := ne_int n2 (z := 16) rfl
  refine r_tableD 70 dX6_readActOfGlass_14 (by omega) (by decide) ?_
  refine r_aload_n 0 dX6_readActOfGlass_70 rfl ?_
  refine q_getR (e9 := (0, 8)) dX6_readActOfGlass_71 fd_X6_21 t0 rfl h (fun r10 tr10 h => ?_)
  refine r_iconst (v := 1) dX6_readActOfGlass_74 (by decide) ?_
  obtain ⟨v11, τ12, ev11, h⟩ := bd2_some h
  refine q_cVI [.int (1 : Int32)] dX6_readActOfGlass_75 cv_X6_77 (ci := 8) rfl rfl tr10 rfl rfl (Nat.le_of_ble_eq_true rfl) (by omega) (kX8_fails (d - 1) (by omega) r10 (1 : Int32) tr10 (v11, τ12) ev11) ?_
  obtain ⟨hbz, h⟩ := rZ_some h
  obtain rfl := Option.some.inj h
  exact r_zreturn dX6_readActOfGlass_78 rfl hbz hQ (Nat.le_refl _) (Nat.le_refl _)
theorem kX6_readActOfPerson {l : Launch} {G : gg} {Γ : ly} {σ : mm} (d : Nat) (hdd : 4 ≤ d) (x0 : Nat) (x1 : Int32) (t0 : tyOK Γ (0, 6) x0) (r : (Int32 × mm)) (h : fX6_readActOfPerson Γ.2 σ x0 x1 = some r) : CT l G yX6_readActOfPerson cX6_readActOfPerson 2 (some .boolean) d 0 0 [.ref (G.2.1 x0), .int x1] Γ σ (PP (some (.int r.1)) Γ r.2) := by
  refine CT.ofWP (by decide) (Nat.le_of_ble_eq_true rfl) ?_
  have hQ : PP (some (.int r.1)) Γ r.2 (some (.int r.1)) Γ r.2 := PP.self
  generalize PP (some (.int r.1)) Γ r.2 = Q at hQ ⊢
  show WP l G yX6_readActOfPerson cX6_readActOfPerson 2 (some .boolean) d 0 0 Q 0 0 0 [(0, .ref (G.2.1 x0)), (1, .int x1)] [] Γ σ
  unfold fX6_readActOfPerson at h
  refine r_swm dX6_readActOfPerson_0 fw_X6_93 ?_
  refine r_aload_n 0 dX6_readActOfPerson_3 rfl ?_
  refine q_getR (e9 := (0, 8)) dX6_readActOfPerson_4 fd_X6_21 t0 rfl h (fun r1 tr1 h => ?_)
  refine q_getR (e9 := (100, 0)) dX6_readActOfPerson_7 fd_X6_65 tr1 rfl h (fun r2 tr2 h => ?_)
  refine q_cord dX6_readActOfPerson_10 cu_X6_98 rfl rfl tr2 (Nat.le_of_ble_eq_true rfl) (by omega) (k_ordinal (d - 1) r2 tr2) ?_
  refine q_swmld dX6_readActOfPerson_13 h (fun v3 h => ?_)
  rcases if_split h with ⟨q9, h⟩ | ⟨n0, h⟩
  · refine r_table (11 : Int32) 26 40 dX6_readActOfPerson_14 q9 (by decide) (by decide) rfl (by decide) ?_
    refine r_aload_n 0 dX6_readActOfPerson_40 rfl ?_
    refine r_iconst (v := 0) dX6_readActOfPerson_41 (by decide) ?_
    refine r_iload_n 1 dX6_readActOfPerson_42 rfl ?_
    refine r_iconst (v := 0) dX6_readActOfPerson_43 (by decide) ?_
    obtain ⟨v4, τ5, ev4, h⟩ := bd2_some h
    refine q_cVI [.int (0 : Int32), .int x1, .int (0 : Int32)] dX6_readActOfPerson_44 cv_X6_102 (ci := 6) rfl rfl t0 rfl rfl (Nat.le_of_ble_eq_true rfl) (by omega) (kX6_note (d - 1) (by omega) x0 (0 : Int32) x1 (0 : Int32) t0 (v4, τ5) ev4) ?_
    obtain ⟨hbz, h⟩ := rZ_some h
    obtain rfl := Option.some.inj h
    exact r_zreturn dX6_readActOfPerson_47 rfl hbz hQ (Nat.le_refl _) (Nat.le_refl _)
  rcases if_split h with ⟨q9, h⟩ | ⟨n1, h⟩
  · refine r_table (12 : Int32) 34 48 dX6_readActOfPerson_14 q9 (by decide) (by decide) rfl (by decide) ?_
    refine r_aload_n 0 dX6_readActOfPerson_48 rfl ?_
    refine r_iconst (v := 1) dX6_readActOfPerson_49 (by decide) ?_
    refine r_iload_n 1 dX6_readActOfPerson_50 rfl ?_
    refine r_iconst (v := 0) dX6_readActOfPerson_51 (by decide) ?_
    obtain ⟨v6, τ7, ev6, h⟩ := bd2_some h
    refine q_cVI [.int (1 : Int32), .int x1, .int (0 : Int32)] dX6_readActOfPerson_52 cv_X6_102 (ci := 6) rfl rfl t0 rfl rfl (Nat.le_of_ble_eq_true rfl) (by omega) (kX6_note (d - 1) (by omega) x0 (1 : Int32) x1 (0 : Int32) t0 (v6, τ7) ev6) ?_
    obtain ⟨hbz, h⟩ := rZ_some h
    obtain rfl := Option.some.inj h
    exact r_zreturn dX6_readActOfPerson_55 rfl hbz hQ (Nat.le_refl _) (Nat.le_refl _)
  rcases if_split h with ⟨q9, h⟩ | ⟨n2, h⟩
  · refine r_table (13 : Int32) 42 56 dX6_readActOfPerson_14 q9 (by decide) (by decide) rfl (by decide) ?_
    refine r_aload_n 0 dX6_readActOfPerson_56 rfl ?_
    refine r_iconst (v := 2) dX6_readActOfPerson_57 (by decide) ?_
    refine r_iload_n 1 dX6_readActOfPerson_58 rfl ?_
    refine r_iconst (v := 1) dX6_readActOfPerson_59 (by decide) ?_
    refine r_bipush (v := 20) dX6_readActOfPerson_60 (by decide) ?_
    obtain ⟨v8, τ9, ev8, h⟩ := bd2_some h
    refine q_cVI [.int (2 : Int32), .int x1, .int (1 : Int32), .int (20 : Int32)] dX6_readActOfPerson_62 cv_X6_83 (ci := 6) rfl rfl t0 rfl rfl (Nat.le_of_ble_eq_true rfl) (by omega) (kX6_takeAct (d - 1) (by omega) x0 (2 : Int32) x1 (1 : Int32) (20 : Int32) t0 (v8, τ9) ev8) ?_
    obtain ⟨hbz, h⟩ := rZ_some h
    obtain rfl := Option.some.inj h
    exact r_zreturn dX6_readActOfPerson_65 rfl hbz hQ (Nat.le_refl _) (Nat.le_refl _)
  have n0 := ne_int n0 (z := 11) rfl
  have n1 := ne_int n1 (z := 12) rfl
  have n2 := ne_int n2 (z := 13) rfl
  refine r_tableD 66 dX6_readActOfPerson_14 (by omega) (by decide) ?_
  refine r_aload_n 0 dX6_readActOfPerson_66 rfl ?_
  refine q_getR (e9 := (0, 8)) dX6_readActOfPerson_67 fd_X6_21 t0 rfl h (fun r10 tr10 h => ?_)
  refine r_iconst (v := 1) dX6_readActOfPerson_70 (by decide) ?_
  obtain ⟨v11, τ12, ev11, h⟩ := bd2_some h
  refine q_cVI [.int (1 : Int32)] dX6_readActOfPerson_71 cv_X6_77 (ci := 8) rfl rfl tr10 rfl rfl (Nat.le_of_ble_eq_true rfl) (by omega) (kX8_fails (d - 1) (by omega) r10 (1 : Int32) tr10 (v11, τ12) ev11) ?_
  obtain ⟨hbz, h⟩ := rZ_some h
  obtain rfl := Option.some.inj h
  exact r_zreturn dX6_readActOfPerson_74 rfl hbz hQ (Nat.le_refl _) (Nat.le_refl _)
theorem tX6_readLine_b164 {l : Launch} {G : gg} {Γ : ly} {d : Nat} {Q : Option Value → ly → mm → Prop} (hdd : 5 ≤ d) (σ : mm)  (s0 : Int32)   (r : (Int32 × mm)) (h : fX6_readLine_b164 Γ.2 σ s0 = some r) (hQ : Q (some (.int r.1)) Γ r.2) : WP l G yX6_readLine cX6_readLine 3 (some .boolean) d 0 0 Q 0 0 164 [] [.int s0] Γ σ := by
  unfold fX6_readLine_b164 at h
  obtain ⟨hbz, h⟩ := rZ_some h
  obtain rfl := Option.some.inj h
  exact r_zreturn dX6_readLine_164 rfl hbz hQ (Nat.le_refl _) (Nat.le_refl _)
theorem tX6_readLine_b97 {l : Launch} {G : gg} {Γ : ly} {d : Nat} {Q : Option Value → ly → mm → Prop} (hdd : 5 ≤ d) (σ : mm) (x0 : Nat) (x1 : Int32) (x2 : Int32)  (t0 : tyOK Γ (0, 6) x0)  (r : (Int32 × mm)) (h : fX6_readLine_b97 Γ.2 σ x0 x1 x2 = some r) (hQ : Q (some (.int r.1)) Γ r.2) : WP l G yX6_readLine cX6_readLine 3 (some .boolean) d 0 0 Q 0 0 97 [(0, .ref (G.2.1 x0)), (1, .int x1), (2, .int x2)] [] Γ σ := by
  unfold fX6_readLine_b97 at h
  refine r_aload_n 0 dX6_readLine_97 rfl ?_
  refine r_getI dX6_readLine_98 fd_X6_35 t0 ?_
  refine r_bipush (v := 40) dX6_readLine_101 (by decide) ?_
  refine r_icmp_lt 115 dX6_readLine_103 (by decide) h (fun _ h => ?_) (fun _ h => ?_)
  · refine r_aload_n 0 dX6_readLine_115 rfl ?_
    refine q_getR (e9 := (0, 8)) dX6_readLine_116 fd_X6_21 t0 rfl h (fun r1 tr1 h => ?_)
    refine q_getR (e9 := (100, 0)) dX6_readLine_119 fd_X6_65 tr1 rfl h (fun r2 tr2 h => ?_)
    refine r_word 18 dX6_readLine_122 fw_X6_69 (by decide) ?_
    refine r_acmp_ne 139 dX6_readLine_125 (by decide) tr2 (tyW (Γ := Γ) (i := 18) (by decide)) h (fun _ h => ?_) (fun _ h => ?_)
    · refine r_aload_n 0 dX6_readLine_139 rfl ?_
      refine q_getR (e9 := (0, 8)) dX6_readLine_140 fd_X6_21 t0 rfl h (fun r3 tr3 h => ?_)
      obtain ⟨τ4, eτ4, h⟩ := bd0_some h
      refine q_cVV [] dX6_readLine_143 cv_X6_39 (ci := 8) rfl rfl tr3 rfl rfl (Nat.le_of_ble_eq_true rfl) (by omega) (kX8_next (d - 1) (by omega) r3 tr3 τ4 eτ4) ?_
      refine r_iload_n 1 dX6_readLine_146 rfl ?_
      refine r_iconst (v := -1) dX6_readLine_147 (by decide) ?_
      refine r_icmp_eq 159 dX6_readLine_148 (by decide) h (fun _ h => ?_) (fun _ h => ?_)
      · refine r_aload_n 0 dX6_readLine_159 rfl ?_
        refine r_iload_n 2 dX6_readLine_160 rfl ?_
        obtain ⟨v5, τ6, ev5, h⟩ := bd2_some h
        refine q_cVI [.int x2] dX6_readLine_161 cv_X6_90 (ci := 6) rfl rfl t0 rfl rfl (Nat.le_of_ble_eq_true rfl) (by omega) (kX6_readActOfGlass (d - 1) (by omega) x0 x2 t0 (v5, τ6) ev5) ?_
        refine r_pick [] rfl ?_
        exact tX6_readLine_b164 hdd τ6 v5  _ h hQ
      · refine r_aload_n 0 dX6_readLine_151 rfl ?_
        refine r_iload_n 1 dX6_readLine_152 rfl ?_
        obtain ⟨v7, τ8, ev7, h⟩ := bd2_some h
        refine q_cVI [.int x1] dX6_readLine_153 cv_X6_87 (ci := 6) rfl rfl t0 rfl rfl (Nat.le_of_ble_eq_true rfl) (by omega) (kX6_readActOfPerson (d - 1) (by omega) x0 x1 t0 (v7, τ8) ev7) ?_
        refine r_goto 164 dX6_readLine_156 (by decide) ?_
        refine r_pick [] rfl ?_
        exact tX6_readLine_b164 hdd τ8 v7  _ h hQ
    · refine r_aload_n 0 dX6_readLine_128 rfl ?_
      refine r_bipush (v := 6) dX6_readLine_129 (by decide) ?_
      refine r_iconst (v := 0) dX6_readLine_131 (by decide) ?_
      refine r_iconst (v := 1) dX6_readLine_132 (by decide) ?_
      refine r_bipush (v := 60) dX6_readLine_133 (by decide) ?_
      obtain ⟨v9, τ10, ev9, h⟩ := bd2_some h
      refine q_cVI [.int (6 : Int32), .int (0 : Int32), .int (1 : Int32), .int (60 : Int32)] dX6_readLine_135 cv_X6_83 (ci := 6) rfl rfl t0 rfl rfl (Nat.le_of_ble_eq_true rfl) (by omega) (kX6_takeAct (d - 1) (by omega) x0 (6 : Int32) (0 : Int32) (1 : Int32) (60 : Int32) t0 (v9, τ10) ev9) ?_
      obtain ⟨hbz, h⟩ := rZ_some h
      obtain rfl := Option.some.inj h
      exact r_zreturn dX6_readLine_138 rfl hbz hQ (Nat.le_refl _) (Nat.le_refl _)
  · refine r_aload_n 0 dX6_readLine_106 rfl ?_
    refine q_getR (e9 := (0, 8)) dX6_readLine_107 fd_X6_21 t0 rfl h (fun r11 tr11 h => ?_)
    refine r_iconst (v := 4) dX6_readLine_110 (by decide) ?_
    obtain ⟨v12, τ13, ev12, h⟩ := bd2_some h
    refine q_cVI [.int (4 : Int32)] dX6_readLine_111 cv_X6_77 (ci := 8) rfl rfl tr11 rfl rfl (Nat.le_of_ble_eq_true rfl) (by omega) (kX8_fails (d - 1) (by omega) r11 (4 : Int32) tr11 (v12, τ13) ev12) ?_
    obtain ⟨hbz, h⟩ := rZ_some h
    obtain rfl := Option.some.inj h
    exact r_zreturn dX6_readLine_114 rfl hbz hQ (Nat.le_refl _) (Nat.le_refl _)
theorem tX6_readLine_b65 {l : Launch} {G : gg} {Γ : ly} {d : Nat} {Q : Option Value → ly → mm → Prop} (hdd : 5 ≤ d) (σ : mm) (x0 : Nat) (x1 : Int32) (x2 : Int32)  (t0 : tyOK Γ (0, 6) x0)  (r : (Int32 × mm)) (h : fX6_readLine_b65 Γ.2 σ x0 x1 x2 = some r) (hQ : Q (some (.int r.1)) Γ r.2) : WP l G yX6_readLine cX6_readLine 3 (some .boolean) d 0 0 Q 0 0 65 [(0, .ref (G.2.1 x0)), (1, .int x1), (2, .int x2)] [] Γ σ := by
  unfold fX6_readLine_b65 at h
  refine r_aload_n 0 dX6_readLine_65 rfl ?_
  refine q_getR (e9 := (0, 8)) dX6_readLine_66 fd_X6_21 t0 rfl h (fun r1 tr1 h => ?_)
  refine q_getR (e9 := (100, 0)) dX6_readLine_69 fd_X6_65 tr1 rfl h (fun r2 tr2 h => ?_)
  refine r_word 1 dX6_readLine_72 fw_X6_74 (by decide) ?_
  refine r_acmp_ne 97 dX6_readLine_75 (by decide) tr2 (tyW (Γ := Γ) (i := 1) (by decide)) h (fun _ h => ?_) (fun _ h => ?_)
  · exact tX6_readLine_b97 hdd σ x0 x1 x2 t0 _ h hQ
  · refine r_iload_n 1 dX6_readLine_78 rfl ?_
    refine r_iconst (v := -1) dX6_readLine_79 (by decide) ?_
    refine r_icmp_ne 97 dX6_readLine_80 (by decide) h (fun _ h => ?_) (fun _ h => ?_)
    · exact tX6_readLine_b97 hdd σ x0 x1 x2 t0 _ h hQ
    · refine r_iload_n 2 dX6_readLine_83 rfl ?_
      refine r_iconst (v := -1) dX6_readLine_84 (by decide) ?_
      refine r_icmp_ne 97 dX6_readLine_85 (by decide) h (fun _ h => ?_) (fun _ h => ?_)
      · exact tX6_readLine_b97 hdd σ x0 x1 x2 t0 _ h hQ
      · refine r_aload_n 0 dX6_readLine_88 rfl ?_
        refine q_getR (e9 := (0, 8)) dX6_readLine_89 fd_X6_21 t0 rfl h (fun r3 tr3 h => ?_)
        refine r_iconst (v := 3) dX6_readLine_92 (by decide) ?_
        obtain ⟨v4, τ5, ev4, h⟩ := bd2_some h
        refine q_cVI [.int (3 : Int32)] dX6_readLine_93 cv_X6_77 (ci := 8) rfl rfl tr3 rfl rfl (Nat.le_of_ble_eq_true rfl) (by omega) (kX8_fails (d - 1) (by omega) r3 (3 : Int32) tr3 (v4, τ5) ev4) ?_
        obtain ⟨hbz, h⟩ := rZ_some h
        obtain rfl := Option.some.inj h
        exact r_zreturn dX6_readLine_96 rfl hbz hQ (Nat.le_refl _) (Nat.le_refl _)
theorem kX6_readLine {l : Launch} {G : gg} {Γ : ly} {σ : mm} (d : Nat) (hdd : 5 ≤ d) (x0 : Nat) (t0 : tyOK Γ (0, 6) x0) (r : (Int32 × mm)) (h : fX6_readLine Γ.2 σ x0 = some r) : CT l G yX6_readLine cX6_readLine 3 (some .boolean) d 0 0 [.ref (G.2.1 x0)] Γ σ (PP (some (.int r.1)) Γ r.2) := by
  refine CT.ofWP (by decide) (Nat.le_of_ble_eq_true rfl) ?_
  have hQ : PP (some (.int r.1)) Γ r.2 (some (.int r.1)) Γ r.2 := PP.self
  generalize PP (some (.int r.1)) Γ r.2 = Q at hQ ⊢
  show WP l G yX6_readLine cX6_readLine 3 (some .boolean) d 0 0 Q 0 0 0 [(0, .ref (G.2.1 x0))] [] Γ σ
  unfold fX6_readLine at h
  refine r_aload_n 0 dX6_readLine_0 rfl ?_
  refine q_getR (e9 := (0, 4)) dX6_readLine_1 fd_X6_25 t0 rfl h (fun r1 tr1 h => ?_)
  refine r_aload_n 0 dX6_readLine_4 rfl ?_
  refine q_getR (e9 := (0, 8)) dX6_readLine_5 fd_X6_21 t0 rfl h (fun r2 tr2 h => ?_)
  refine r_getL dX6_readLine_8 fd_X6_52 tr2 ?_
  obtain ⟨v3, ev3, h⟩ := bd0_some h
  refine q_cVI [.long (σ.2.1 r2 7)] dX6_readLine_11 cv_X6_56 (ci := 4) rfl rfl tr1 rfl rfl (Nat.le_of_ble_eq_true rfl) (by omega) (kX4_personNamed (d - 1) (by omega) r1 (σ.2.1 r2 7) tr1 v3 ev3) ?_
  refine r_istore_n (lv' := [(1, .int v3), (0, .ref (G.2.1 x0))]) dX6_readLine_14 (by decide) rfl ?_
  refine r_aload_n 1 dX6_readLine_15 rfl ?_
  refine q_getR (e9 := (0, 4)) dX6_readLine_16 fd_X6_25 t0 rfl h (fun r4 tr4 h => ?_)
  refine r_aload_n 1 dX6_readLine_19 rfl ?_
  refine q_getR (e9 := (0, 8)) dX6_readLine_20 fd_X6_21 t0 rfl h (fun r5 tr5 h => ?_)
  refine r_getL dX6_readLine_23 fd_X6_52 tr5 ?_
  obtain ⟨v6, ev6, h⟩ := bd0_some h
  refine q_cVI [.long (σ.2.1 r5 7)] dX6_readLine_26 cv_X6_62 (ci := 4) rfl rfl tr4 rfl rfl (Nat.le_of_ble_eq_true rfl) (by omega) (kX4_glassNamed (d - 1) (by omega) r4 (σ.2.1 r5 7) tr4 v6 ev6) ?_
  refine r_istore_n (lv' := [(2, .int v6), (1, .int v3), (0, .ref (G.2.1 x0))]) dX6_readLine_29 (by decide) rfl ?_
  refine r_aload_n 2 dX6_readLine_30 rfl ?_
  refine q_getR (e9 := (0, 8)) dX6_readLine_31 fd_X6_21 t0 rfl h (fun r7 tr7 h => ?_)
  refine q_getR (e9 := (100, 0)) dX6_readLine_34 fd_X6_65 tr7 rfl h (fun r8 tr8 h => ?_)
  refine r_word 18 dX6_readLine_37 fw_X6_69 (by decide) ?_
  refine r_acmp_eq 65 dX6_readLine_40 (by decide) tr8 (tyW (Γ := Γ) (i := 18) (by decide)) h (fun _ h => ?_) (fun _ h => ?_)
  · refine r_pick [2, 1, 0] rfl ?_
    exact tX6_readLine_b65 hdd σ x0 v3 v6 t0 _ h hQ
  · refine r_aload_n 2 dX6_readLine_43 rfl ?_
    refine q_getR (e9 := (0, 8)) dX6_readLine_44 fd_X6_21 t0 rfl h (fun r9 tr9 h => ?_)
    refine q_getR (e9 := (100, 0)) dX6_readLine_47 fd_X6_65 tr9 rfl h (fun r10 tr10 h => ?_)
    refine r_word 1 dX6_readLine_50 fw_X6_74 (by decide) ?_
    refine r_acmp_eq 65 dX6_readLine_53 (by decide) tr10 (tyW (Γ := Γ) (i := 1) (by decide)) h (fun _ h => ?_) (fun _ h => ?_)
    · refine r_pick [2, 1, 0] rfl ?_
      exact tX6_readLine_b65 hdd σ x0 v3 v6 t0 _ h hQ
    · refine r_aload_n 2 dX6_readLine_56 rfl ?_
      refine q_getR (e9 := (0, 8)) dX6_readLine_57 fd_X6_21 t0 rfl h (fun r11 tr11 h => ?_)
      refine r_iconst (v := 1) dX6_readLine_60 (by decide) ?_
      obtain ⟨v12, τ13, ev12, h⟩ := bd2_some h
      refine q_cVI [.int (1 : Int32)] dX6_readLine_61 cv_X6_77 (ci := 8) rfl rfl tr11 rfl rfl (Nat.le_of_ble_eq_true rfl) (by omega) (kX8_fails (d - 1) (by omega) r11 (1 : Int32) tr11 (v12, τ13) ev12) ?_
      obtain ⟨hbz, h⟩ := rZ_some h
      obtain rfl := Option.some.inj h
      exact r_zreturn dX6_readLine_64 rfl hbz hQ (Nat.le_refl _) (Nat.le_refl _)
theorem sX6_read_L22 {l : Launch} {G : gg} {Γ : ly} {d : Nat} {Q : Option Value → ly → mm → Prop} (hdd : 6 ≤ d) (x0 : Nat) (t0 : tyOK Γ (0, 6) x0) {K : (mm ⊕ mm) → Prop} (kx0 : ∀ (σ9 : mm), K (.inl σ9) → WP l G yX6_read cX6_read 1 (some .boolean) d 0 0 Q 0 0 58 [] [] Γ σ9) (kx1 : ∀ (σ9 : mm), K (.inr σ9) → WP l G yX6_read cX6_read 1 (some .boolean) d 0 0 Q 0 0 80 [] [] Γ σ9) : ∀ (N : Nat) (s : mm) (b : (mm ⊕ mm)), loopN (fX6_read_L22 Γ.2 x0) N s = some b → K b → WP l G yX6_read cX6_read 1 (some .boolean) d 0 0 Q 0 0 22 [(0, .ref (G.2.1 x0))] [] Γ s := by
  refine r_loop (f := fX6_read_L22 Γ.2 x0) (hlv := fun s => [(0, .ref (G.2.1 x0))]) (hsg := fun s => s) ?_
  rintro σ r h hb hx
  have hx0 : ∀ (σ9 : mm), r = .inr (.inl σ9) → WP l G yX6_read cX6_read 1 (some .boolean) d 0 0 Q 0 0 58 [] [] Γ σ9 := fun σ9 e => kx0 σ9 (hx _ e)
  have hx1 : ∀ (σ9 : mm), r = .inr (.inr σ9) → WP l G yX6_read cX6_read 1 (some .boolean) d 0 0 Q 0 0 80 [] [] Γ σ9 := fun σ9 e => kx1 σ9 (hx _ e)
  unfold fX6_read_L22 at h
  show WP l G yX6_read cX6_read 1 (some .boolean) d 0 0 Q 0 0 22 [(0, .ref (G.2.1 x0))] [] Γ σ
  refine r_aload_n 0 dX6_read_22 rfl ?_
  refine q_getR (e9 := (0, 8)) dX6_read_23 fd_X6_21 t0 rfl h (fun r1 tr1 h => ?_)
  refine r_getI dX6_read_26 fd_X6_42 tr1 ?_
  refine r_if_eq 80 dX6_read_29 (by decide) h (fun _ h => ?_) (fun _ h => ?_)
  · obtain rfl := Option.some.inj h
    refine r_pick [] rfl ?_
    exact hx1 _ rfl
  · refine r_aload_n 0 dX6_read_32 rfl ?_
    refine r_getI dX6_read_33 fd_X6_35 t0 ?_
    refine r_bipush (v := 40) dX6_read_36 (by decide) ?_
    refine r_icmp_gt 80 dX6_read_38 (by decide) h (fun _ h => ?_) (fun _ h => ?_)
    · obtain rfl := Option.some.inj h
      refine r_pick [] rfl ?_
      exact hx1 _ rfl
    · refine r_aload_n 0 dX6_read_41 rfl ?_
      obtain ⟨v2, τ3, ev2, h⟩ := bd2_some h
      refine q_cVI [] dX6_read_42 cv_X6_45 (ci := 6) rfl rfl t0 rfl rfl (Nat.le_of_ble_eq_true rfl) (by omega) (kX6_readLine (d - 1) (by omega) x0 t0 (v2, τ3) ev2) ?_
      refine r_if_eq 58 dX6_read_45 (by decide) h (fun _ h => ?_) (fun _ h => ?_)
      · obtain rfl := Option.some.inj h
        refine r_pick [] rfl ?_
        exact hx0 _ rfl
      · refine r_aload_n 0 dX6_read_48 rfl ?_
        refine q_getR (e9 := (0, 8)) dX6_read_49 fd_X6_21 t0 rfl h (fun r4 tr4 h => ?_)
        obtain ⟨v5, τ6, ev5, h⟩ := bd2_some h
        refine q_cVI [] dX6_read_52 cv_X6_49 (ci := 8) rfl rfl tr4 rfl rfl (Nat.le_of_ble_eq_true rfl) (by omega) (kX8_takeSemicolon (d - 1) (by omega) r4 tr4 (v5, τ6) ev5) ?_
        refine r_if_ne 60 dX6_read_55 (by decide) h (fun _ h => ?_) (fun _ h => ?_)
        · refine r_aload_n 0 dX6_read_60 rfl ?_
          refine r_dup dX6_read_61 rfl ?_
          refine r_getI dX6_read_62 fd_X6_35 t0 ?_
          refine r_iconst (v := 1) dX6_read_65 (by decide) ?_
          refine r_iadd dX6_read_66 ?_
          refine q_putI dX6_read_67 fd_X6_35 t0 h (fun τ7 h => ?_)
          refine r_aload_n 0 dX6_read_70 rfl ?_
          refine q_getR (e9 := (0, 8)) dX6_read_71 fd_X6_21 t0 rfl h (fun r8 tr8 h => ?_)
          obtain ⟨τ9, eτ9, h⟩ := bd0_some h
          refine q_cVV [] dX6_read_74 cv_X6_39 (ci := 8) rfl rfl tr8 rfl rfl (Nat.le_of_ble_eq_true rfl) (by omega) (kX8_next (d - 1) (by omega) r8 tr8 τ9 eτ9) ?_
          refine r_goto 22 dX6_read_77 (by decide) ?_
          obtain rfl := Option.some.inj h
          exact hb _ rfl
        · obtain rfl := Option.some.inj h
          refine r_pick [] rfl ?_
          exact hx0 _ rfl
theorem tX6_read_b58 {l : Launch} {G : gg} {Γ : ly} {d : Nat} {Q : Option Value → ly → mm → Prop} (hdd : 6 ≤ d) (σ : mm)     (r : (Int32 × mm)) (h : fX6_read_b58 Γ.2 σ  = some r) (hQ : Q (some (.int r.1)) Γ r.2) : WP l G yX6_read cX6_read 1 (some .boolean) d 0 0 Q 0 0 58 [] [] Γ σ := by
  unfold fX6_read_b58 at h
  refine r_iconst (v := 0) dX6_read_58 (by decide) ?_
  obtain rfl := Option.some.inj h
  exact r_zreturn dX6_read_59 rfl (by decide) hQ (Nat.le_refl _) (Nat.le_refl _)
theorem tX6_read_b80 {l : Launch} {G : gg} {Γ : ly} {d : Nat} {Q : Option Value → ly → mm → Prop} (hdd : 6 ≤ d) (σ : mm)     (r : (Int32 × mm)) (h : fX6_read_b80 Γ.2 σ  = some r) (hQ : Q (some (.int r.1)) Γ r.2) : WP l G yX6_read cX6_read 1 (some .boolean) d 0 0 Q 0 0 80 [] [] Γ σ := by
  unfold fX6_read_b80 at h
  refine r_iconst (v := 1) dX6_read_80 (by decide) ?_
  obtain rfl := Option.some.inj h
  exact r_zreturn dX6_read_81 rfl (by decide) hQ (Nat.le_refl _) (Nat.le_refl _)
theorem kX6_read {l : Launch} {G : gg} {Γ : ly} {σ : mm} (d : Nat) (hdd : 6 ≤ d) (x0 : Nat) (t0 : tyOK Γ (0, 6) x0) (r : (Int32 × mm)) (h : fX6_read Γ.2 σ x0 = some r) : CT l G yX6_read cX6_read 1 (some .boolean) d 0 0 [.ref (G.2.1 x0)] Γ σ (PP (some (.int r.1)) Γ r.2) := by
  refine CT.ofWP (by decide) (Nat.le_of_ble_eq_true rfl) ?_
  have hQ : PP (some (.int r.1)) Γ r.2 (some (.int r.1)) Γ r.2 := PP.self
  generalize PP (some (.int r.1)) Γ r.2 = Q at hQ ⊢
  show WP l G yX6_read cX6_read 1 (some .boolean) d 0 0 Q 0 0 0 [(0, .ref (G.2.1 x0))] [] Γ σ
  unfold fX6_read at h
  refine r_aload_n 0 dX6_read_0 rfl ?_
  refine q_getR (e9 := (0, 8)) dX6_read_1 fd_X6_21 t0 rfl h (fun r1 tr1 h => ?_)
  refine r_sipush (v := 400) dX6_read_4 (by decide) ?_
  obtain ⟨τ2, eτ2, h⟩ := bd0_some h
  refine q_cVV [.int (400 : Int32)] dX6_read_7 cv_X6_29 (ci := 8) rfl rfl tr1 rfl rfl (Nat.le_of_ble_eq_true rfl) (by omega) (kX8_begin (d - 1) (by omega) r1 (400 : Int32) tr1 τ2 eτ2) ?_
  refine r_aload_n 0 dX6_read_10 rfl ?_
  refine r_iconst (v := 0) dX6_read_11 (by decide) ?_
  refine q_putI dX6_read_12 fd_X6_35 t0 h (fun τ3 h => ?_)
  refine r_aload_n 0 dX6_read_15 rfl ?_
  refine q_getR (e9 := (0, 8)) dX6_read_16 fd_X6_21 t0 rfl h (fun r4 tr4 h => ?_)
  obtain ⟨τ5, eτ5, h⟩ := bd0_some h
  refine q_cVV [] dX6_read_19 cv_X6_39 (ci := 8) rfl rfl tr4 rfl rfl (Nat.le_of_ble_eq_true rfl) (by omega) (kX8_next (d - 1) (by omega) r4 tr4 τ5 eτ5) ?_
  obtain ⟨b6, eb6, h⟩ := bd0_some h
  refine sX6_read_L22 hdd x0 t0 (K := fun b => b = b6) ?_ ?_ 1000 τ5 b6 eb6 rfl
  · rintro τ7 rfl
    have h := cs2_0 h
    exact tX6_read_b58 hdd τ7  _ h hQ
  · rintro τ8 rfl
    have h := cs2_1 h
    exact tX6_read_b80 hdd τ8  _ h hQ
