/-! the walks, 2 -/
theorem kX3_copyFrom {l : Launch} {G : gg} {Γ : ly} {σ : mm} (d : Nat) (hdd : 1 ≤ d) (x0 : Nat) (x1 : Nat) (t0 : tyOK Γ (0, 3) x0) (t1 : tyOK Γ (0, 3) x1) (r : mm) (h : fX3_copyFrom Γ.2 σ x0 x1 = some r) : CT l G yX3_copyFrom cX3_copyFrom 2 (none) d 0 0 [.ref (G.2.1 x0), .ref (G.2.1 x1)] Γ σ (PP none Γ r) := by
  refine CT.ofWP (by decide) (Nat.le_of_ble_eq_true rfl) ?_
  have hQ : PP none Γ r none Γ r := PP.self
  generalize PP none Γ r = Q at hQ ⊢
  show WP l G yX3_copyFrom cX3_copyFrom 2 (none) d 0 0 Q 0 0 0 [(0, .ref (G.2.1 x0)), (1, .ref (G.2.1 x1))] [] Γ σ
  unfold fX3_copyFrom at h
  refine r_aload_n 0 dX3_copyFrom_0 rfl ?_
  refine r_aload_n 1 dX3_copyFrom_1 rfl ?_
  refine r_getI dX3_copyFrom_2 fd_X3_37 t1 ?_
  refine q_putI dX3_copyFrom_5 fd_X3_37 t0 h (fun τ1 h => ?_)
  refine r_aload_n 0 dX3_copyFrom_8 rfl ?_
  refine r_aload_n 1 dX3_copyFrom_9 rfl ?_
  refine r_getI dX3_copyFrom_10 fd_X3_41 t1 ?_
  refine q_putI dX3_copyFrom_13 fd_X3_41 t0 h (fun τ2 h => ?_)
  refine r_aload_n 0 dX3_copyFrom_16 rfl ?_
  refine r_aload_n 1 dX3_copyFrom_17 rfl ?_
  refine r_getI dX3_copyFrom_18 fd_X3_44 t1 ?_
  refine q_putI dX3_copyFrom_21 fd_X3_44 t0 h (fun τ3 h => ?_)
  refine r_aload_n 1 dX3_copyFrom_24 rfl ?_
  refine q_getR (e9 := (1, 0)) dX3_copyFrom_25 fd_X3_9 t1 rfl h (fun r4 tr4 h => ?_)
  refine r_iconst (v := 0) dX3_copyFrom_28 (by decide) ?_
  refine r_aload_n 0 dX3_copyFrom_29 rfl ?_
  refine q_getR (e9 := (1, 0)) dX3_copyFrom_30 fd_X3_9 t0 rfl h (fun r5 tr5 h => ?_)
  refine r_iconst (v := 0) dX3_copyFrom_33 (by decide) ?_
  refine r_bipush (v := 8) dX3_copyFrom_34 (by decide) ?_
  refine q_copyI dX3_copyFrom_36 cp_X3_64 tr4 tr5 (Nat.le_of_ble_eq_true rfl) (by omega) h (fun τ6 h => ?_)
  refine r_aload_n 1 dX3_copyFrom_39 rfl ?_
  refine q_getR (e9 := (1, 0)) dX3_copyFrom_40 fd_X3_15 t1 rfl h (fun r7 tr7 h => ?_)
  refine r_iconst (v := 0) dX3_copyFrom_43 (by decide) ?_
  refine r_aload_n 0 dX3_copyFrom_44 rfl ?_
  refine q_getR (e9 := (1, 0)) dX3_copyFrom_45 fd_X3_15 t0 rfl h (fun r8 tr8 h => ?_)
  refine r_iconst (v := 0) dX3_copyFrom_48 (by decide) ?_
  refine r_bipush (v := 8) dX3_copyFrom_49 (by decide) ?_
  refine q_copyI dX3_copyFrom_51 cp_X3_64 tr7 tr8 (Nat.le_of_ble_eq_true rfl) (by omega) h (fun τ9 h => ?_)
  refine r_aload_n 1 dX3_copyFrom_54 rfl ?_
  refine q_getR (e9 := (1, 0)) dX3_copyFrom_55 fd_X3_18 t1 rfl h (fun r10 tr10 h => ?_)
  refine r_iconst (v := 0) dX3_copyFrom_58 (by decide) ?_
  refine r_aload_n 0 dX3_copyFrom_59 rfl ?_
  refine q_getR (e9 := (1, 0)) dX3_copyFrom_60 fd_X3_18 t0 rfl h (fun r11 tr11 h => ?_)
  refine r_iconst (v := 0) dX3_copyFrom_63 (by decide) ?_
  refine r_iconst (v := 4) dX3_copyFrom_64 (by decide) ?_
  refine q_copyI dX3_copyFrom_65 cp_X3_64 tr10 tr11 (Nat.le_of_ble_eq_true rfl) (by omega) h (fun τ12 h => ?_)
  refine r_aload_n 1 dX3_copyFrom_68 rfl ?_
  refine q_getR (e9 := (1, 0)) dX3_copyFrom_69 fd_X3_21 t1 rfl h (fun r13 tr13 h => ?_)
  refine r_iconst (v := 0) dX3_copyFrom_72 (by decide) ?_
  refine r_aload_n 0 dX3_copyFrom_73 rfl ?_
  refine q_getR (e9 := (1, 0)) dX3_copyFrom_74 fd_X3_21 t0 rfl h (fun r14 tr14 h => ?_)
  refine r_iconst (v := 0) dX3_copyFrom_77 (by decide) ?_
  refine r_iconst (v := 4) dX3_copyFrom_78 (by decide) ?_
  refine q_copyI dX3_copyFrom_79 cp_X3_64 tr13 tr14 (Nat.le_of_ble_eq_true rfl) (by omega) h (fun τ15 h => ?_)
  refine r_aload_n 1 dX3_copyFrom_82 rfl ?_
  refine q_getR (e9 := (1, 0)) dX3_copyFrom_83 fd_X3_24 t1 rfl h (fun r16 tr16 h => ?_)
  refine r_iconst (v := 0) dX3_copyFrom_86 (by decide) ?_
  refine r_aload_n 0 dX3_copyFrom_87 rfl ?_
  refine q_getR (e9 := (1, 0)) dX3_copyFrom_88 fd_X3_24 t0 rfl h (fun r17 tr17 h => ?_)
  refine r_iconst (v := 0) dX3_copyFrom_91 (by decide) ?_
  refine r_iconst (v := 4) dX3_copyFrom_92 (by decide) ?_
  refine q_copyI dX3_copyFrom_93 cp_X3_64 tr16 tr17 (Nat.le_of_ble_eq_true rfl) (by omega) h (fun τ18 h => ?_)
  refine r_aload_n 1 dX3_copyFrom_96 rfl ?_
  refine q_getR (e9 := (1, 0)) dX3_copyFrom_97 fd_X3_27 t1 rfl h (fun r19 tr19 h => ?_)
  refine r_iconst (v := 0) dX3_copyFrom_100 (by decide) ?_
  refine r_aload_n 0 dX3_copyFrom_101 rfl ?_
  refine q_getR (e9 := (1, 0)) dX3_copyFrom_102 fd_X3_27 t0 rfl h (fun r20 tr20 h => ?_)
  refine r_iconst (v := 0) dX3_copyFrom_105 (by decide) ?_
  refine r_iconst (v := 4) dX3_copyFrom_106 (by decide) ?_
  refine q_copyI dX3_copyFrom_107 cp_X3_64 tr19 tr20 (Nat.le_of_ble_eq_true rfl) (by omega) h (fun τ21 h => ?_)
  refine r_aload_n 1 dX3_copyFrom_110 rfl ?_
  refine q_getR (e9 := (1, 0)) dX3_copyFrom_111 fd_X3_30 t1 rfl h (fun r22 tr22 h => ?_)
  refine r_iconst (v := 0) dX3_copyFrom_114 (by decide) ?_
  refine r_aload_n 0 dX3_copyFrom_115 rfl ?_
  refine q_getR (e9 := (1, 0)) dX3_copyFrom_116 fd_X3_30 t0 rfl h (fun r23 tr23 h => ?_)
  refine r_iconst (v := 0) dX3_copyFrom_119 (by decide) ?_
  refine r_iconst (v := 4) dX3_copyFrom_120 (by decide) ?_
  refine q_copyI dX3_copyFrom_121 cp_X3_64 tr22 tr23 (Nat.le_of_ble_eq_true rfl) (by omega) h (fun τ24 h => ?_)
  obtain rfl := Option.some.inj h
  exact r_return dX3_copyFrom_124 rfl hQ (Nat.le_refl _) (Nat.le_refl _)
theorem tX3_isAwake_b28 {l : Launch} {G : gg} {Γ : ly} {d : Nat} {Q : Option Value → ly → mm → Prop} (hdd : 1 ≤ d) (σ : mm)  (s0 : Int32)   (r : Int32) (h : fX3_isAwake_b28 Γ.2 σ s0 = some r) (hQ : Q (some (.int r)) Γ σ) : WP l G yX3_isAwake cX3_isAwake 2 (some .boolean) d 0 0 Q 0 0 28 [] [.int s0] Γ σ := by
  unfold fX3_isAwake_b28 at h
  obtain ⟨hbz, h⟩ := rZ_some h
  obtain rfl := Option.some.inj h
  exact r_zreturn dX3_isAwake_28 rfl hbz hQ (Nat.le_refl _) (Nat.le_refl _)
theorem tX3_isAwake_b23 {l : Launch} {G : gg} {Γ : ly} {d : Nat} {Q : Option Value → ly → mm → Prop} (hdd : 1 ≤ d) (σ : mm)     (r : Int32) (h : fX3_isAwake_b23 Γ.2 σ  = some r) (hQ : Q (some (.int r)) Γ σ) : WP l G yX3_isAwake cX3_isAwake 2 (some .boolean) d 0 0 Q 0 0 23 [] [] Γ σ := by
  unfold fX3_isAwake_b23 at h
  refine r_iconst (v := 1) dX3_isAwake_23 (by decide) ?_
  refine r_goto 28 dX3_isAwake_24 (by decide) ?_
  exact tX3_isAwake_b28 hdd σ (1 : Int32)  _ h hQ
theorem kX3_isAwake {l : Launch} {G : gg} {Γ : ly} {σ : mm} (d : Nat) (hdd : 1 ≤ d) (x0 : Nat) (x1 : Int32) (t0 : tyOK Γ (0, 3) x0) (r : Int32) (h : fX3_isAwake Γ.2 σ x0 x1 = some r) : CT l G yX3_isAwake cX3_isAwake 2 (some .boolean) d 0 0 [.ref (G.2.1 x0), .int x1] Γ σ (PP (some (.int r)) Γ σ) := by
  refine CT.ofWP (by decide) (Nat.le_of_ble_eq_true rfl) ?_
  have hQ : PP (some (.int r)) Γ σ (some (.int r)) Γ σ := PP.self
  generalize PP (some (.int r)) Γ σ = Q at hQ ⊢
  show WP l G yX3_isAwake cX3_isAwake 2 (some .boolean) d 0 0 Q 0 0 0 [(0, .ref (G.2.1 x0)), (1, .int x1)] [] Γ σ
  unfold fX3_isAwake at h
  refine r_aload_n 0 dX3_isAwake_0 rfl ?_
  refine r_iload_n 1 dX3_isAwake_1 rfl ?_
  obtain ⟨v1, ev1, h⟩ := bd0_some h
  refine q_cVI [.int x1] dX3_isAwake_2 cv_X3_70 (ci := 3) rfl rfl t0 rfl rfl (Nat.le_of_ble_eq_true rfl) (by omega) (kX3_isWoken (d - 1) (by omega) x0 x1 t0 v1 ev1) ?_
  refine r_if_ne 23 dX3_isAwake_5 (by decide) h (fun _ h => ?_) (fun _ h => ?_)
  · refine r_pick [] rfl ?_
    exact tX3_isAwake_b23 hdd σ  _ h hQ
  · refine r_aload_n 0 dX3_isAwake_8 rfl ?_
    refine q_getR (e9 := (0, 4)) dX3_isAwake_9 fd_X3_33 t0 rfl h (fun r2 tr2 h => ?_)
    refine r_iload_n 1 dX3_isAwake_12 rfl ?_
    refine r_aload_n 0 dX3_isAwake_13 rfl ?_
    refine r_getI dX3_isAwake_14 fd_X3_37 t0 ?_
    obtain ⟨v3, ev3, h⟩ := bd0_some h
    refine q_cVI [.int x1, .int (σ.1 x0 1)] dX3_isAwake_17 cv_X3_74 (ci := 4) rfl rfl tr2 rfl rfl (Nat.le_of_ble_eq_true rfl) (by omega) (kX4_isUp (d - 1) (by omega) r2 x1 (σ.1 x0 1) tr2 v3 ev3) ?_
    refine r_if_eq 27 dX3_isAwake_20 (by decide) h (fun _ h => ?_) (fun _ h => ?_)
    · refine r_iconst (v := 0) dX3_isAwake_27 (by decide) ?_
      refine r_pick [] rfl ?_
      exact tX3_isAwake_b28 hdd σ (0 : Int32)  _ h hQ
    · refine r_pick [] rfl ?_
      exact tX3_isAwake_b23 hdd σ  _ h hQ
theorem tX3_isWilling_b29 {l : Launch} {G : gg} {Γ : ly} {d : Nat} {Q : Option Value → ly → mm → Prop} (hdd : 2 ≤ d) (σ : mm)  (s0 : Int32)   (r : Int32) (h : fX3_isWilling_b29 Γ.2 σ s0 = some r) (hQ : Q (some (.int r)) Γ σ) : WP l G yX3_isWilling cX3_isWilling 2 (some .boolean) d 0 0 Q 0 0 29 [] [.int s0] Γ σ := by
  unfold fX3_isWilling_b29 at h
  obtain ⟨hbz, h⟩ := rZ_some h
  obtain rfl := Option.some.inj h
  exact r_zreturn dX3_isWilling_29 rfl hbz hQ (Nat.le_refl _) (Nat.le_refl _)
theorem tX3_isWilling_b28 {l : Launch} {G : gg} {Γ : ly} {d : Nat} {Q : Option Value → ly → mm → Prop} (hdd : 2 ≤ d) (σ : mm)     (r : Int32) (h : fX3_isWilling_b28 Γ.2 σ  = some r) (hQ : Q (some (.int r)) Γ σ) : WP l G yX3_isWilling cX3_isWilling 2 (some .boolean) d 0 0 Q 0 0 28 [] [] Γ σ := by
  unfold fX3_isWilling_b28 at h
  refine r_iconst (v := 0) dX3_isWilling_28 (by decide) ?_
  exact tX3_isWilling_b29 hdd σ (0 : Int32)  _ h hQ
theorem kX3_isWilling {l : Launch} {G : gg} {Γ : ly} {σ : mm} (d : Nat) (hdd : 2 ≤ d) (x0 : Nat) (x1 : Int32) (t0 : tyOK Γ (0, 3) x0) (r : Int32) (h : fX3_isWilling Γ.2 σ x0 x1 = some r) : CT l G yX3_isWilling cX3_isWilling 2 (some .boolean) d 0 0 [.ref (G.2.1 x0), .int x1] Γ σ (PP (some (.int r)) Γ σ) := by
  refine CT.ofWP (by decide) (Nat.le_of_ble_eq_true rfl) ?_
  have hQ : PP (some (.int r)) Γ σ (some (.int r)) Γ σ := PP.self
  generalize PP (some (.int r)) Γ σ = Q at hQ ⊢
  show WP l G yX3_isWilling cX3_isWilling 2 (some .boolean) d 0 0 Q 0 0 0 [(0, .ref (G.2.1 x0)), (1, .int x1)] [] Γ σ
  unfold fX3_isWilling at h
  refine r_aload_n 0 dX3_isWilling_0 rfl ?_
  refine q_getR (e9 := (1, 0)) dX3_isWilling_1 fd_X3_9 t0 rfl h (fun r1 tr1 h => ?_)
  refine r_iload_n 1 dX3_isWilling_4 rfl ?_
  refine q_iald dX3_isWilling_5 tr1 h (fun v2 h => ?_)
  refine r_aload_n 0 dX3_isWilling_6 rfl ?_
  refine q_getR (e9 := (0, 4)) dX3_isWilling_7 fd_X3_33 t0 rfl h (fun r3 tr3 h => ?_)
  refine r_getI dX3_isWilling_10 fd_X3_78 tr3 ?_
  refine r_icmp_lt 28 dX3_isWilling_13 (by decide) h (fun _ h => ?_) (fun _ h => ?_)
  · refine r_pick [] rfl ?_
    exact tX3_isWilling_b28 hdd σ  _ h hQ
  · refine r_aload_n 0 dX3_isWilling_16 rfl ?_
    refine r_iload_n 1 dX3_isWilling_17 rfl ?_
    obtain ⟨v4, ev4, h⟩ := bd0_some h
    refine q_cVI [.int x1] dX3_isWilling_18 cv_X3_81 (ci := 3) rfl rfl t0 rfl rfl (Nat.le_of_ble_eq_true rfl) (by omega) (kX3_isAwake (d - 1) (by omega) x0 x1 t0 v4 ev4) ?_
    refine r_if_eq 28 dX3_isWilling_21 (by decide) h (fun _ h => ?_) (fun _ h => ?_)
    · refine r_pick [] rfl ?_
      exact tX3_isWilling_b28 hdd σ  _ h hQ
    · refine r_iconst (v := 1) dX3_isWilling_24 (by decide) ?_
      refine r_goto 29 dX3_isWilling_25 (by decide) ?_
      refine r_pick [] rfl ?_
      exact tX3_isWilling_b29 hdd σ (1 : Int32)  _ h hQ
theorem tX3_isLapsed_b17 {l : Launch} {G : gg} {Γ : ly} {d : Nat} {Q : Option Value → ly → mm → Prop} (hdd : 0 ≤ d) (σ : mm)  (s0 : Int32)   (r : Int32) (h : fX3_isLapsed_b17 Γ.2 σ s0 = some r) (hQ : Q (some (.int r)) Γ σ) : WP l G yX3_isLapsed cX3_isLapsed 2 (some .boolean) d 0 0 Q 0 0 17 [] [.int s0] Γ σ := by
  unfold fX3_isLapsed_b17 at h
  obtain ⟨hbz, h⟩ := rZ_some h
  obtain rfl := Option.some.inj h
  exact r_zreturn dX3_isLapsed_17 rfl hbz hQ (Nat.le_refl _) (Nat.le_refl _)
theorem kX3_isLapsed {l : Launch} {G : gg} {Γ : ly} {σ : mm} (d : Nat) (hdd : 0 ≤ d) (x0 : Nat) (x1 : Int32) (t0 : tyOK Γ (0, 3) x0) (r : Int32) (h : fX3_isLapsed Γ.2 σ x0 x1 = some r) : CT l G yX3_isLapsed cX3_isLapsed 2 (some .boolean) d 0 0 [.ref (G.2.1 x0), .int x1] Γ σ (PP (some (.int r)) Γ σ) := by
  refine CT.ofWP (by decide) (Nat.le_of_ble_eq_true rfl) ?_
  have hQ : PP (some (.int r)) Γ σ (some (.int r)) Γ σ := PP.self
  generalize PP (some (.int r)) Γ σ = Q at hQ ⊢
  show WP l G yX3_isLapsed cX3_isLapsed 2 (some .boolean) d 0 0 Q 0 0 0 [(0, .ref (G.2.1 x0)), (1, .int x1)] [] Γ σ
  unfold fX3_isLapsed at h
  refine r_aload_n 0 dX3_isLapsed_0 rfl ?_
  refine r_getI dX3_isLapsed_1 fd_X3_41 t0 ?_
  refine r_iload_n 1 dX3_isLapsed_4 rfl ?_
  refine r_ishr dX3_isLapsed_5 ?_
  refine r_iconst (v := 1) dX3_isLapsed_6 (by decide) ?_
  refine r_iand dX3_isLapsed_7 ?_
  refine r_iconst (v := 1) dX3_isLapsed_8 (by decide) ?_
  refine r_icmp_ne 16 dX3_isLapsed_9 (by decide) h (fun _ h => ?_) (fun _ h => ?_)
  · refine r_iconst (v := 0) dX3_isLapsed_16 (by decide) ?_
    refine r_pick [] rfl ?_
    exact tX3_isLapsed_b17 hdd σ (0 : Int32)  _ h hQ
  · refine r_iconst (v := 1) dX3_isLapsed_12 (by decide) ?_
    refine r_goto 17 dX3_isLapsed_13 (by decide) ?_
    refine r_pick [] rfl ?_
    exact tX3_isLapsed_b17 hdd σ (1 : Int32)  _ h hQ
theorem tX3_awakeBits_b29 {l : Launch} {G : gg} {Γ : ly} {d : Nat} {Q : Option Value → ly → mm → Prop} (hdd : 2 ≤ d) (σ : mm) (x0 : Nat) (x1 : Int32) (x2 : Int32)  (t0 : tyOK Γ (0, 3) x0)  (r : ((Int32 × Int32) ⊕ Int32)) (h : fX3_awakeBits_b29 Γ.2 σ x0 x1 x2 = some r) (hb : ∀ (x1 : Int32) (x2 : Int32), r = .inl (x1, x2) → WP l G yX3_awakeBits cX3_awakeBits 3 (some .int) d 0 0 Q 0 0 4 [(0, .ref (G.2.1 x0)), (1, .int x1), (2, .int x2)] [] Γ σ) (hx0 : ∀ (x1 : Int32), r = .inr x1 → WP l G yX3_awakeBits cX3_awakeBits 3 (some .int) d 0 0 Q 0 0 35 [(1, .int x1)] [] Γ σ) : WP l G yX3_awakeBits cX3_awakeBits 3 (some .int) d 0 0 Q 0 0 29 [(0, .ref (G.2.1 x0)), (1, .int x1), (2, .int x2)] [] Γ σ := by
  unfold fX3_awakeBits_b29 at h
  refine q_iinc (v := 1) 2 (fun v1 => [(2, .int v1), (0, .ref (G.2.1 x0)), (1, .int x1)]) dX3_awakeBits_29 rfl (by decide) (by decide) (fun _ => rfl) h (fun v1 h => ?_)
  refine r_goto 4 dX3_awakeBits_32 (by decide) ?_
  obtain rfl := Option.some.inj h
  refine r_pick [1, 2, 0] rfl ?_
  exact hb _ _ rfl
theorem sX3_awakeBits_L4 {l : Launch} {G : gg} {Γ : ly} {d : Nat} {Q : Option Value → ly → mm → Prop} (hdd : 2 ≤ d) (σ : mm) (x0 : Nat) (t0 : tyOK Γ (0, 3) x0) {K : Int32 → Prop} (kx0 : ∀ (x1 : Int32), K x1 → WP l G yX3_awakeBits cX3_awakeBits 3 (some .int) d 0 0 Q 0 0 35 [(1, .int x1)] [] Γ σ) : ∀ (N : Nat) (s : (Int32 × Int32)) (b : Int32), loopN (fX3_awakeBits_L4 Γ.2 σ x0) N s = some b → K b → WP l G yX3_awakeBits cX3_awakeBits 3 (some .int) d 0 0 Q 0 0 4 [(0, .ref (G.2.1 x0)), (1, .int s.1), (2, .int s.2)] [] Γ σ := by
  refine r_loop (f := fX3_awakeBits_L4 Γ.2 σ x0) (hlv := fun s => [(0, .ref (G.2.1 x0)), (1, .int s.1), (2, .int s.2)]) (hsg := fun s => σ) ?_
  rintro ⟨x1, x2⟩ r h hb hx
  have hb : ∀ (x1 : Int32) (x2 : Int32), r = .inl (x1, x2) → WP l G yX3_awakeBits cX3_awakeBits 3 (some .int) d 0 0 Q 0 0 4 [(0, .ref (G.2.1 x0)), (1, .int x1), (2, .int x2)] [] Γ σ := fun x1 x2 e => hb (x1, x2) e
  have hx0 : ∀ (x1 : Int32), r = .inr x1 → WP l G yX3_awakeBits cX3_awakeBits 3 (some .int) d 0 0 Q 0 0 35 [(1, .int x1)] [] Γ σ := fun x1 e => kx0 x1 (hx _ e)
  unfold fX3_awakeBits_L4 at h
  have h := un2_some h
  show WP l G yX3_awakeBits cX3_awakeBits 3 (some .int) d 0 0 Q 0 0 4 [(0, .ref (G.2.1 x0)), (1, .int x1), (2, .int x2)] [] Γ σ
  refine r_iload_n 2 dX3_awakeBits_4 rfl ?_
  refine r_aload_n 0 dX3_awakeBits_5 rfl ?_
  refine q_getR (e9 := (0, 4)) dX3_awakeBits_6 fd_X3_33 t0 rfl h (fun r1 tr1 h => ?_)
  refine r_getI dX3_awakeBits_9 fd_X3_47 tr1 ?_
  refine r_icmp_ge 35 dX3_awakeBits_12 (by decide) h (fun _ h => ?_) (fun _ h => ?_)
  · obtain rfl := Option.some.inj h
    refine r_pick [1] rfl ?_
    exact hx0 _ rfl
  · refine r_aload_n 0 dX3_awakeBits_15 rfl ?_
    refine r_iload_n 2 dX3_awakeBits_16 rfl ?_
    obtain ⟨v2, ev2, h⟩ := bd0_some h
    refine q_cVI [.int x2] dX3_awakeBits_17 cv_X3_81 (ci := 3) rfl rfl t0 rfl rfl (Nat.le_of_ble_eq_true rfl) (by omega) (kX3_isAwake (d - 1) (by omega) x0 x2 t0 v2 ev2) ?_
    refine r_if_eq 29 dX3_awakeBits_20 (by decide) h (fun _ h => ?_) (fun _ h => ?_)
    · exact tX3_awakeBits_b29 hdd σ x0 x1 x2 t0 _ h hb hx0
    · refine r_iload_n 1 dX3_awakeBits_23 rfl ?_
      refine r_iconst (v := 1) dX3_awakeBits_24 (by decide) ?_
      refine r_iload_n 2 dX3_awakeBits_25 rfl ?_
      refine r_ishl dX3_awakeBits_26 ?_
      refine r_ior dX3_awakeBits_27 ?_
      refine q_nmI h (fun v3 h => ?_)
      refine r_istore_n (lv' := [(1, .int v3), (0, .ref (G.2.1 x0)), (2, .int x2)]) dX3_awakeBits_28 (by decide) rfl ?_
      refine r_pick [1, 0, 2] rfl ?_
      exact tX3_awakeBits_b29 hdd σ x0 v3 x2 t0 _ h hb hx0
theorem kX3_awakeBits {l : Launch} {G : gg} {Γ : ly} {σ : mm} (d : Nat) (hdd : 2 ≤ d) (x0 : Nat) (t0 : tyOK Γ (0, 3) x0) (r : Int32) (h : fX3_awakeBits Γ.2 σ x0 = some r) : CT l G yX3_awakeBits cX3_awakeBits 3 (some .int) d 0 0 [.ref (G.2.1 x0)] Γ σ (PP (some (.int r)) Γ σ) := by
  refine CT.ofWP (by decide) (Nat.le_of_ble_eq_true rfl) ?_
  have hQ : PP (some (.int r)) Γ σ (some (.int r)) Γ σ := PP.self
  generalize PP (some (.int r)) Γ σ = Q at hQ ⊢
  show WP l G yX3_awakeBits cX3_awakeBits 3 (some .int) d 0 0 Q 0 0 0 [(0, .ref (G.2.1 x0))] [] Γ σ
  unfold fX3_awakeBits at h
  refine r_iconst (v := 0) dX3_awakeBits_0 (by decide) ?_
  refine r_istore_n (lv' := [(1, .int (0 : Int32)), (0, .ref (G.2.1 x0))]) dX3_awakeBits_1 (by decide) rfl ?_
  refine r_iconst (v := 0) dX3_awakeBits_2 (by decide) ?_
  refine r_istore_n (lv' := [(2, .int (0 : Int32)), (1, .int (0 : Int32)), (0, .ref (G.2.1 x0))]) dX3_awakeBits_3 (by decide) rfl ?_
  obtain ⟨b1, eb1, h⟩ := bd0_some h
  refine r_pick [2, 1, 0] rfl ?_
  refine sX3_awakeBits_L4 hdd σ x0 t0 (K := fun b => b = b1) ?_ 1000 ((0 : Int32), (0 : Int32)) b1 eb1 rfl
  rintro v2 rfl
  refine r_iload_n 0 dX3_awakeBits_35 rfl ?_
  obtain rfl := Option.some.inj h
  exact r_ireturn dX3_awakeBits_36 rfl hQ (Nat.le_refl _) (Nat.le_refl _)
theorem sX3_sumOverGlasses_L4 {l : Launch} {G : gg} {Γ : ly} {d : Nat} {Q : Option Value → ly → mm → Prop} (hdd : 0 ≤ d) (σ : mm) (x0 : Nat) (x1 : Nat) (t0 : tyOK Γ (0, 3) x0) (t1 : tyOK Γ (1, 0) x1) {K : Int32 → Prop} (kx0 : ∀ (x2 : Int32), K x2 → WP l G yX3_sumOverGlasses cX3_sumOverGlasses 4 (some .int) d 0 0 Q 0 0 33 [(2, .int x2)] [] Γ σ) : ∀ (N : Nat) (s : (Int32 × Int32)) (b : Int32), loopN (fX3_sumOverGlasses_L4 Γ.2 σ x0 x1) N s = some b → K b → WP l G yX3_sumOverGlasses cX3_sumOverGlasses 4 (some .int) d 0 0 Q 0 0 4 [(0, .ref (G.2.1 x0)), (1, .ref (G.2.1 x1)), (2, .int s.1), (3, .int s.2)] [] Γ σ := by
  refine r_loop (f := fX3_sumOverGlasses_L4 Γ.2 σ x0 x1) (hlv := fun s => [(0, .ref (G.2.1 x0)), (1, .ref (G.2.1 x1)), (2, .int s.1), (3, .int s.2)]) (hsg := fun s => σ) ?_
  rintro ⟨x2, x3⟩ r h hb hx
  have hb : ∀ (x2 : Int32) (x3 : Int32), r = .inl (x2, x3) → WP l G yX3_sumOverGlasses cX3_sumOverGlasses 4 (some .int) d 0 0 Q 0 0 4 [(0, .ref (G.2.1 x0)), (1, .ref (G.2.1 x1)), (2, .int x2), (3, .int x3)] [] Γ σ := fun x2 x3 e => hb (x2, x3) e
  have hx0 : ∀ (x2 : Int32), r = .inr x2 → WP l G yX3_sumOverGlasses cX3_sumOverGlasses 4 (some .int) d 0 0 Q 0 0 33 [(2, .int x2)] [] Γ σ := fun x2 e => kx0 x2 (hx _ e)
  unfold fX3_sumOverGlasses_L4 at h
  have h := un2_some h
  show WP l G yX3_sumOverGlasses cX3_sumOverGlasses 4 (some .int) d 0 0 Q 0 0 4 [(0, .ref (G.2.1 x0)), (1, .ref (G.2.1 x1)), (2, .int x2), (3, .int x3)] [] Γ σ
  refine r_iload_n 3 dX3_sumOverGlasses_4 rfl ?_
  refine r_aload_n 0 dX3_sumOverGlasses_5 rfl ?_
  refine q_getR (e9 := (0, 4)) dX3_sumOverGlasses_6 fd_X3_33 t0 rfl h (fun r1 tr1 h => ?_)
  refine r_getI dX3_sumOverGlasses_9 fd_X3_55 tr1 ?_
  refine r_icmp_ge 33 dX3_sumOverGlasses_12 (by decide) h (fun _ h => ?_) (fun _ h => ?_)
  · obtain rfl := Option.some.inj h
    refine r_pick [2] rfl ?_
    exact hx0 _ rfl
  · refine r_iload_n 3 dX3_sumOverGlasses_15 rfl ?_
    refine r_aload_n 1 dX3_sumOverGlasses_16 rfl ?_
    refine r_alen1 dX3_sumOverGlasses_17 t1 ?_
    refine r_icmp_ge 33 dX3_sumOverGlasses_18 (by decide) h (fun _ h => ?_) (fun _ h => ?_)
    · obtain rfl := Option.some.inj h
      refine r_pick [2] rfl ?_
      exact hx0 _ rfl
    · refine r_iload_n 2 dX3_sumOverGlasses_21 rfl ?_
      refine r_aload_n 1 dX3_sumOverGlasses_22 rfl ?_
      refine r_iload_n 3 dX3_sumOverGlasses_23 rfl ?_
      refine q_iald dX3_sumOverGlasses_24 t1 h (fun v2 h => ?_)
      refine r_iadd dX3_sumOverGlasses_25 ?_
      refine q_nmI h (fun v3 h => ?_)
      refine r_istore_n (lv' := [(2, .int v3), (0, .ref (G.2.1 x0)), (1, .ref (G.2.1 x1)), (3, .int x3)]) dX3_sumOverGlasses_26 (by decide) rfl ?_
      refine q_iinc (v := 1) 3 (fun v4 => [(3, .int v4), (2, .int v3), (0, .ref (G.2.1 x0)), (1, .ref (G.2.1 x1))]) dX3_sumOverGlasses_27 rfl (by decide) (by decide) (fun _ => rfl) h (fun v4 h => ?_)
      refine r_goto 4 dX3_sumOverGlasses_30 (by decide) ?_
      obtain rfl := Option.some.inj h
      refine r_pick [2, 3, 1, 0] rfl ?_
      exact hb _ _ rfl
theorem tX3_sumOverGlasses_b33 {l : Launch} {G : gg} {Γ : ly} {d : Nat} {Q : Option Value → ly → mm → Prop} (hdd : 0 ≤ d) (σ : mm) (x2 : Int32)    (r : Int32) (h : fX3_sumOverGlasses_b33 Γ.2 σ x2 = some r) (hQ : Q (some (.int r)) Γ σ) : WP l G yX3_sumOverGlasses cX3_sumOverGlasses 4 (some .int) d 0 0 Q 0 0 33 [(2, .int x2)] [] Γ σ := by
  unfold fX3_sumOverGlasses_b33 at h
  refine r_iload_n 0 dX3_sumOverGlasses_33 rfl ?_
  obtain rfl := Option.some.inj h
  exact r_ireturn dX3_sumOverGlasses_34 rfl hQ (Nat.le_refl _) (Nat.le_refl _)
theorem kX3_sumOverGlasses {l : Launch} {G : gg} {Γ : ly} {σ : mm} (d : Nat) (hdd : 0 ≤ d) (x0 : Nat) (x1 : Nat) (t0 : tyOK Γ (0, 3) x0) (t1 : tyOK Γ (1, 0) x1) (r : Int32) (h : fX3_sumOverGlasses Γ.2 σ x0 x1 = some r) : CT l G yX3_sumOverGlasses cX3_sumOverGlasses 4 (some .int) d 0 0 [.ref (G.2.1 x0), .ref (G.2.1 x1)] Γ σ (PP (some (.int r)) Γ σ) := by
  refine CT.ofWP (by decide) (Nat.le_of_ble_eq_true rfl) ?_
  have hQ : PP (some (.int r)) Γ σ (some (.int r)) Γ σ := PP.self
  generalize PP (some (.int r)) Γ σ = Q at hQ ⊢
  show WP l G yX3_sumOverGlasses cX3_sumOverGlasses 4 (some .int) d 0 0 Q 0 0 0 [(0, .ref (G.2.1 x0)), (1, .ref (G.2.1 x1))] [] Γ σ
  unfold fX3_sumOverGlasses at h
  refine r_iconst (v := 0) dX3_sumOverGlasses_0 (by decide) ?_
  refine r_istore_n (lv' := [(2, .int (0 : Int32)), (0, .ref (G.2.1 x0)), (1, .ref (G.2.1 x1))]) dX3_sumOverGlasses_1 (by decide) rfl ?_
  refine r_iconst (v := 0) dX3_sumOverGlasses_2 (by decide) ?_
  refine r_istore_n (lv' := [(3, .int (0 : Int32)), (2, .int (0 : Int32)), (0, .ref (G.2.1 x0)), (1, .ref (G.2.1 x1))]) dX3_sumOverGlasses_3 (by decide) rfl ?_
  obtain ⟨b1, eb1, h⟩ := bd0_some h
  refine r_pick [2, 3, 1, 0] rfl ?_
  refine sX3_sumOverGlasses_L4 hdd σ x0 x1 t0 t1 (K := fun b => b = b1) ?_ 1000 ((0 : Int32), (0 : Int32)) b1 eb1 rfl
  rintro v2 rfl
  exact tX3_sumOverGlasses_b33 hdd σ v2  _ h hQ
theorem kX3_hoursOf {l : Launch} {G : gg} {Γ : ly} {σ : mm} (d : Nat) (hdd : 1 ≤ d) (x0 : Nat) (x1 : Int32) (t0 : tyOK Γ (0, 3) x0) (r : Int32) (h : fX3_hoursOf Γ.2 σ x0 x1 = some r) : CT l G yX3_hoursOf cX3_hoursOf 2 (some .int) d 0 0 [.ref (G.2.1 x0), .int x1] Γ σ (PP (some (.int r)) Γ σ) := by
  refine CT.ofWP (by decide) (Nat.le_of_ble_eq_true rfl) ?_
  have hQ : PP (some (.int r)) Γ σ (some (.int r)) Γ σ := PP.self
  generalize PP (some (.int r)) Γ σ = Q at hQ ⊢
  show WP l G yX3_hoursOf cX3_hoursOf 2 (some .int) d 0 0 Q 0 0 0 [(0, .ref (G.2.1 x0)), (1, .int x1)] [] Γ σ
  unfold fX3_hoursOf at h
  refine r_iload_n 1 dX3_hoursOf_0 rfl ?_
  refine r_sipush (v := 600) dX3_hoursOf_1 (by decide) ?_
  refine r_aload_n 0 dX3_hoursOf_4 rfl ?_
  refine r_getI dX3_hoursOf_5 fd_X3_37 t0 ?_
  refine r_isub dX3_hoursOf_8 ?_
  refine r_min dX3_hoursOf_9 mx_X3_84 (Nat.le_of_ble_eq_true rfl) (by omega) (Nat.le_refl _) (Nat.le_refl _) ?_
  obtain rfl := Option.some.inj h
  exact r_ireturn dX3_hoursOf_12 rfl hQ (Nat.le_refl _) (Nat.le_refl _)
theorem tX3_whyNotTilt_b42 {l : Launch} {G : gg} {Γ : ly} {d : Nat} {Q : Option Value → ly → mm → Prop} (hdd : 1 ≤ d) (σ : mm)  (s0 : Int32)   (r : Int32) (h : fX3_whyNotTilt_b42 Γ.2 σ s0 = some r) (hQ : Q (some (.int r)) Γ σ) : WP l G yX3_whyNotTilt cX3_whyNotTilt 3 (some .int) d 0 0 Q 0 0 42 [] [.int s0] Γ σ := by
  unfold fX3_whyNotTilt_b42 at h
  obtain rfl := Option.some.inj h
  exact r_ireturn dX3_whyNotTilt_42 rfl hQ (Nat.le_refl _) (Nat.le_refl _)
theorem tX3_whyNotTilt_b41 {l : Launch} {G : gg} {Γ : ly} {d : Nat} {Q : Option Value → ly → mm → Prop} (hdd : 1 ≤ d) (σ : mm)     (r : Int32) (h : fX3_whyNotTilt_b41 Γ.2 σ  = some r) (hQ : Q (some (.int r)) Γ σ) : WP l G yX3_whyNotTilt cX3_whyNotTilt 3 (some .int) d 0 0 Q 0 0 41 [] [] Γ σ := by
  unfold fX3_whyNotTilt_b41 at h
  refine r_iconst (v := 0) dX3_whyNotTilt_41 (by decide) ?_
  exact tX3_whyNotTilt_b42 hdd σ (0 : Int32)  _ h hQ
theorem kX3_whyNotTilt {l : Launch} {G : gg} {Γ : ly} {σ : mm} (d : Nat) (hdd : 1 ≤ d) (x0 : Nat) (x1 : Int32) (x2 : Int32) (t0 : tyOK Γ (0, 3) x0) (r : Int32) (h : fX3_whyNotTilt Γ.2 σ x0 x1 x2 = some r) : CT l G yX3_whyNotTilt cX3_whyNotTilt 3 (some .int) d 0 0 [.ref (G.2.1 x0), .int x1, .int x2] Γ σ (PP (some (.int r)) Γ σ) := by
  refine CT.ofWP (by decide) (Nat.le_of_ble_eq_true rfl) ?_
  have hQ : PP (some (.int r)) Γ σ (some (.int r)) Γ σ := PP.self
  generalize PP (some (.int r)) Γ σ = Q at hQ ⊢
  show WP l G yX3_whyNotTilt cX3_whyNotTilt 3 (some .int) d 0 0 Q 0 0 0 [(0, .ref (G.2.1 x0)), (1, .int x1), (2, .int x2)] [] Γ σ
  unfold fX3_whyNotTilt at h
  refine r_aload_n 0 dX3_whyNotTilt_0 rfl ?_
  refine r_iload_n 1 dX3_whyNotTilt_1 rfl ?_
  obtain ⟨v1, ev1, h⟩ := bd0_some h
  refine q_cVI [.int x1] dX3_whyNotTilt_2 cv_X3_106 (ci := 3) rfl rfl t0 rfl rfl (Nat.le_of_ble_eq_true rfl) (by omega) (kX3_isLapsed (d - 1) (by omega) x0 x1 t0 v1 ev1) ?_
  refine r_if_eq 10 dX3_whyNotTilt_5 (by decide) h (fun _ h => ?_) (fun _ h => ?_)
  · refine r_aload_n 0 dX3_whyNotTilt_10 rfl ?_
    refine q_getR (e9 := (1, 0)) dX3_whyNotTilt_11 fd_X3_21 t0 rfl h (fun r2 tr2 h => ?_)
    refine r_iload_n 1 dX3_whyNotTilt_14 rfl ?_
    refine q_iald dX3_whyNotTilt_15 tr2 h (fun v3 h => ?_)
    refine r_iload_n 2 dX3_whyNotTilt_16 rfl ?_
    refine r_icmp_ne 22 dX3_whyNotTilt_17 (by decide) h (fun _ h => ?_) (fun _ h => ?_)
    · refine r_iload_n 2 dX3_whyNotTilt_22 rfl ?_
      refine r_iconst (v := 2) dX3_whyNotTilt_23 (by decide) ?_
      refine r_icmp_ne 41 dX3_whyNotTilt_24 (by decide) h (fun _ h => ?_) (fun _ h => ?_)
      · refine r_pick [] rfl ?_
        exact tX3_whyNotTilt_b41 hdd σ  _ h hQ
      · refine r_aload_n 0 dX3_whyNotTilt_27 rfl ?_
        refine q_getR (e9 := (0, 4)) dX3_whyNotTilt_28 fd_X3_33 t0 rfl h (fun r4 tr4 h => ?_)
        refine r_getI dX3_whyNotTilt_31 fd_X3_122 tr4 ?_
        refine r_if_ne 41 dX3_whyNotTilt_34 (by decide) h (fun _ h => ?_) (fun _ h => ?_)
        · refine r_pick [] rfl ?_
          exact tX3_whyNotTilt_b41 hdd σ  _ h hQ
        · refine r_iconst (v := 3) dX3_whyNotTilt_37 (by decide) ?_
          refine r_goto 42 dX3_whyNotTilt_38 (by decide) ?_
          refine r_pick [] rfl ?_
          exact tX3_whyNotTilt_b42 hdd σ (3 : Int32)  _ h hQ
    · refine r_iconst (v := 2) dX3_whyNotTilt_20 (by decide) ?_
      obtain rfl := Option.some.inj h
      exact r_ireturn dX3_whyNotTilt_21 rfl hQ (Nat.le_refl _) (Nat.le_refl _)
  · refine r_iconst (v := 1) dX3_whyNotTilt_8 (by decide) ?_
    obtain rfl := Option.some.inj h
    exact r_ireturn dX3_whyNotTilt_9 rfl hQ (Nat.le_refl _) (Nat.le_refl _)
theorem sX4_glassOf_L2 {l : Launch} {G : gg} {Γ : ly} {d : Nat} {Q : Option Value → ly → mm → Prop} (hdd : 0 ≤ d) (σ : mm) (x0 : Nat) (x1 : Int32) (t0 : tyOK Γ (0, 4) x0) {K : (Int32 ⊕ Unit) → Prop} (kx0 : ∀ (x2 : Int32), K (.inl x2) → WP l G yX4_glassOf cX4_glassOf 3 (some .int) d 0 0 Q 0 0 30 [(2, .int x2)] [] Γ σ) (kx1 : K (.inr ()) → WP l G yX4_glassOf cX4_glassOf 3 (some .int) d 0 0 Q 0 0 38 [] [] Γ σ) : ∀ (N : Nat) (s : Int32) (b : (Int32 ⊕ Unit)), loopN (fX4_glassOf_L2 Γ.2 σ x0 x1) N s = some b → K b → WP l G yX4_glassOf cX4_glassOf 3 (some .int) d 0 0 Q 0 0 2 [(0, .ref (G.2.1 x0)), (1, .int x1), (2, .int s)] [] Γ σ := by
  refine r_loop (f := fX4_glassOf_L2 Γ.2 σ x0 x1) (hlv := fun s => [(0, .ref (G.2.1 x0)), (1, .int x1), (2, .int s)]) (hsg := fun s => σ) ?_
  rintro x2 r h hb hx
  have hx0 : ∀ (x2 : Int32), r = .inr (.inl x2) → WP l G yX4_glassOf cX4_glassOf 3 (some .int) d 0 0 Q 0 0 30 [(2, .int x2)] [] Γ σ := fun x2 e => kx0 x2 (hx _ e)
  have hx1 : r = .inr (.inr ()) → WP l G yX4_glassOf cX4_glassOf 3 (some .int) d 0 0 Q 0 0 38 [] [] Γ σ := fun e => kx1  (hx _ e)
  unfold fX4_glassOf_L2 at h
  show WP l G yX4_glassOf cX4_glassOf 3 (some .int) d 0 0 Q 0 0 2 [(0, .ref (G.2.1 x0)), (1, .int x1), (2, .int x2)] [] Γ σ
  refine r_iload_n 2 dX4_glassOf_2 rfl ?_
  refine r_aload_n 0 dX4_glassOf_3 rfl ?_
  refine r_getI dX4_glassOf_4 fd_X4_66 t0 ?_
  refine r_icmp_ge 38 dX4_glassOf_7 (by decide) h (fun _ h => ?_) (fun _ h => ?_)
  · obtain rfl := Option.some.inj h
    refine r_pick [] rfl ?_
    exact hx1  rfl
  · refine r_aload_n 0 dX4_glassOf_10 rfl ?_
    refine q_getR (e9 := (1, 0)) dX4_glassOf_11 fd_X4_34 t0 rfl h (fun r1 tr1 h => ?_)
    refine r_iload_n 2 dX4_glassOf_14 rfl ?_
    refine q_iald dX4_glassOf_15 tr1 h (fun v2 h => ?_)
    refine r_iload_n 1 dX4_glassOf_16 rfl ?_
    refine r_icmp_eq 30 dX4_glassOf_17 (by decide) h (fun _ h => ?_) (fun _ h => ?_)
    · obtain rfl := Option.some.inj h
      refine r_pick [2] rfl ?_
      exact hx0 _ rfl
    · refine r_aload_n 0 dX4_glassOf_20 rfl ?_
      refine q_getR (e9 := (1, 0)) dX4_glassOf_21 fd_X4_37 t0 rfl h (fun r3 tr3 h => ?_)
      refine r_iload_n 2 dX4_glassOf_24 rfl ?_
      refine q_iald dX4_glassOf_25 tr3 h (fun v4 h => ?_)
      refine r_iload_n 1 dX4_glassOf_26 rfl ?_
      refine r_icmp_ne 32 dX4_glassOf_27 (by decide) h (fun _ h => ?_) (fun _ h => ?_)
      · refine q_iinc (v := 1) 2 (fun v5 => [(2, .int v5), (0, .ref (G.2.1 x0)), (1, .int x1)]) dX4_glassOf_32 rfl (by decide) (by decide) (fun _ => rfl) h (fun v5 h => ?_)
        refine r_goto 2 dX4_glassOf_35 (by decide) ?_
        obtain rfl := Option.some.inj h
        refine r_pick [1, 2, 0] rfl ?_
        exact hb _ rfl
      · obtain rfl := Option.some.inj h
        refine r_pick [2] rfl ?_
        exact hx0 _ rfl
theorem tX4_glassOf_b30 {l : Launch} {G : gg} {Γ : ly} {d : Nat} {Q : Option Value → ly → mm → Prop} (hdd : 0 ≤ d) (σ : mm) (x2 : Int32)    (r : Int32) (h : fX4_glassOf_b30 Γ.2 σ x2 = some r) (hQ : Q (some (.int r)) Γ σ) : WP l G yX4_glassOf cX4_glassOf 3 (some .int) d 0 0 Q 0 0 30 [(2, .int x2)] [] Γ σ := by
  unfold fX4_glassOf_b30 at h
  refine r_iload_n 0 dX4_glassOf_30 rfl ?_
  obtain rfl := Option.some.inj h
  exact r_ireturn dX4_glassOf_31 rfl hQ (Nat.le_refl _) (Nat.le_refl _)
theorem kX4_glassOf {l : Launch} {G : gg} {Γ : ly} {σ : mm} (d : Nat) (hdd : 0 ≤ d) (x0 : Nat) (x1 : Int32) (t0 : tyOK Γ (0, 4) x0) (r : Int32) (h : fX4_glassOf Γ.2 σ x0 x1 = some r) : CT l G yX4_glassOf cX4_glassOf 3 (some .int) d 0 0 [.ref (G.2.1 x0), .int x1] Γ σ (PP (some (.int r)) Γ σ) := by
  refine CT.ofWP (by decide) (Nat.le_of_ble_eq_true rfl) ?_
  have hQ : PP (some (.int r)) Γ σ (some (.int r)) Γ σ := PP.self
  generalize PP (some (.int r)) Γ σ = Q at hQ ⊢
  show WP l G yX4_glassOf cX4_glassOf 3 (some .int) d 0 0 Q 0 0 0 [(0, .ref (G.2.1 x0)), (1, .int x1)] [] Γ σ
  unfold fX4_glassOf at h
  refine r_iconst (v := 0) dX4_glassOf_0 (by decide) ?_
  refine r_istore_n (lv' := [(2, .int (0 : Int32)), (0, .ref (G.2.1 x0)), (1, .int x1)]) dX4_glassOf_1 (by decide) rfl ?_
  obtain ⟨b1, eb1, h⟩ := bd0_some h
  refine r_pick [1, 2, 0] rfl ?_
  refine sX4_glassOf_L2 hdd σ x0 x1 t0 (K := fun b => b = b1) ?_ ?_ 1000 (0 : Int32) b1 eb1 rfl
  · rintro v2 rfl
    have h := cs2_0 h
    exact tX4_glassOf_b30 hdd σ v2  _ h hQ
  · rintro rfl
    have h := cs2_1 h
    refine r_iconst (v := -1) dX4_glassOf_38 (by decide) ?_
    obtain rfl := Option.some.inj h
    exact r_ireturn dX4_glassOf_39 rfl hQ (Nat.le_refl _) (Nat.le_refl _)
theorem tX4_hasGlass_b17 {l : Launch} {G : gg} {Γ : ly} {d : Nat} {Q : Option Value → ly → mm → Prop} (hdd : 0 ≤ d) (σ : mm)  (s0 : Int32)   (r : Int32) (h : fX4_hasGlass_b17 Γ.2 σ s0 = some r) (hQ : Q (some (.int r)) Γ σ) : WP l G yX4_hasGlass cX4_hasGlass 2 (some .boolean) d 0 0 Q 0 0 17 [] [.int s0] Γ σ := by
  unfold fX4_hasGlass_b17 at h
  obtain ⟨hbz, h⟩ := rZ_some h
  obtain rfl := Option.some.inj h
  exact r_zreturn dX4_hasGlass_17 rfl hbz hQ (Nat.le_refl _) (Nat.le_refl _)
theorem tX4_hasGlass_b16 {l : Launch} {G : gg} {Γ : ly} {d : Nat} {Q : Option Value → ly → mm → Prop} (hdd : 0 ≤ d) (σ : mm)     (r : Int32) (h : fX4_hasGlass_b16 Γ.2 σ  = some r) (hQ : Q (some (.int r)) Γ σ) : WP l G yX4_hasGlass cX4_hasGlass 2 (some .boolean) d 0 0 Q 0 0 16 [] [] Γ σ := by
  unfold fX4_hasGlass_b16 at h
  refine r_iconst (v := 0) dX4_hasGlass_16 (by decide) ?_
  exact tX4_hasGlass_b17 hdd σ (0 : Int32)  _ h hQ
theorem kX4_hasGlass {l : Launch} {G : gg} {Γ : ly} {σ : mm} (d : Nat) (hdd : 0 ≤ d) (x0 : Nat) (x1 : Int32) (t0 : tyOK Γ (0, 4) x0) (r : Int32) (h : fX4_hasGlass Γ.2 σ x0 x1 = some r) : CT l G yX4_hasGlass cX4_hasGlass 2 (some .boolean) d 0 0 [.ref (G.2.1 x0), .int x1] Γ σ (PP (some (.int r)) Γ σ) := by
  refine CT.ofWP (by decide) (Nat.le_of_ble_eq_true rfl) ?_
  have hQ : PP (some (.int r)) Γ σ (some (.int r)) Γ σ := PP.self
  generalize PP (some (.int r)) Γ σ = Q at hQ ⊢
  show WP l G yX4_hasGlass cX4_hasGlass 2 (some .boolean) d 0 0 Q 0 0 0 [(0, .ref (G.2.1 x0)), (1, .int x1)] [] Γ σ
  unfold fX4_hasGlass at h
  refine r_iload_n 1 dX4_hasGlass_0 rfl ?_
  refine r_if_lt 16 dX4_hasGlass_1 (by decide) h (fun _ h => ?_) (fun _ h => ?_)
  · refine r_pick [] rfl ?_
    exact tX4_hasGlass_b16 hdd σ  _ h hQ
  · refine r_iload_n 1 dX4_hasGlass_4 rfl ?_
    refine r_aload_n 0 dX4_hasGlass_5 rfl ?_
    refine r_getI dX4_hasGlass_6 fd_X4_66 t0 ?_
    refine r_icmp_ge 16 dX4_hasGlass_9 (by decide) h (fun _ h => ?_) (fun _ h => ?_)
    · refine r_pick [] rfl ?_
      exact tX4_hasGlass_b16 hdd σ  _ h hQ
    · refine r_iconst (v := 1) dX4_hasGlass_12 (by decide) ?_
      refine r_goto 17 dX4_hasGlass_13 (by decide) ?_
      refine r_pick [] rfl ?_
      exact tX4_hasGlass_b17 hdd σ (1 : Int32)  _ h hQ
theorem tX3_isWedStill_b33 {l : Launch} {G : gg} {Γ : ly} {d : Nat} {Q : Option Value → ly → mm → Prop} (hdd : 1 ≤ d) (σ : mm)  (s0 : Int32)   (r : Int32) (h : fX3_isWedStill_b33 Γ.2 σ s0 = some r) (hQ : Q (some (.int r)) Γ σ) : WP l G yX3_isWedStill cX3_isWedStill 3 (some .boolean) d 0 0 Q 0 0 33 [] [.int s0] Γ σ := by
  unfold fX3_isWedStill_b33 at h
  obtain ⟨hbz, h⟩ := rZ_some h
  obtain rfl := Option.some.inj h
  exact r_zreturn dX3_isWedStill_33 rfl hbz hQ (Nat.le_refl _) (Nat.le_refl _)
theorem tX3_isWedStill_b32 {l : Launch} {G : gg} {Γ : ly} {d : Nat} {Q : Option Value → ly → mm → Prop} (hdd : 1 ≤ d) (σ : mm)     (r : Int32) (h : fX3_isWedStill_b32 Γ.2 σ  = some r) (hQ : Q (some (.int r)) Γ σ) : WP l G yX3_isWedStill cX3_isWedStill 3 (some .boolean) d 0 0 Q 0 0 32 [] [] Γ σ := by
  unfold fX3_isWedStill_b32 at h
  refine r_iconst (v := 0) dX3_isWedStill_32 (by decide) ?_
  exact tX3_isWedStill_b33 hdd σ (0 : Int32)  _ h hQ
theorem kX3_isWedStill {l : Launch} {G : gg} {Γ : ly} {σ : mm} (d : Nat) (hdd : 1 ≤ d) (x0 : Nat) (x1 : Int32) (t0 : tyOK Γ (0, 3) x0) (r : Int32) (h : fX3_isWedStill Γ.2 σ x0 x1 = some r) : CT l G yX3_isWedStill cX3_isWedStill 3 (some .boolean) d 0 0 [.ref (G.2.1 x0), .int x1] Γ σ (PP (some (.int r)) Γ σ) := by
  refine CT.ofWP (by decide) (Nat.le_of_ble_eq_true rfl) ?_
  have hQ : PP (some (.int r)) Γ σ (some (.int r)) Γ σ := PP.self
  generalize PP (some (.int r)) Γ σ = Q at hQ ⊢
  show WP l G yX3_isWedStill cX3_isWedStill 3 (some .boolean) d 0 0 Q 0 0 0 [(0, .ref (G.2.1 x0)), (1, .int x1)] [] Γ σ
  unfold fX3_isWedStill at h
  refine r_aload_n 0 dX3_isWedStill_0 rfl ?_
  refine q_getR (e9 := (0, 4)) dX3_isWedStill_1 fd_X3_33 t0 rfl h (fun r1 tr1 h => ?_)
  refine r_iload_n 1 dX3_isWedStill_4 rfl ?_
  obtain ⟨v2, ev2, h⟩ := bd0_some h
  refine q_cVI [.int x1] dX3_isWedStill_5 cv_X3_109 (ci := 4) rfl rfl tr1 rfl rfl (Nat.le_of_ble_eq_true rfl) (by omega) (kX4_glassOf (d - 1) (by omega) r1 x1 tr1 v2 ev2) ?_
  refine r_istore_n (lv' := [(2, .int v2), (0, .ref (G.2.1 x0)), (1, .int x1)]) dX3_isWedStill_8 (by decide) rfl ?_
  refine r_aload_n 1 dX3_isWedStill_9 rfl ?_
  refine q_getR (e9 := (0, 4)) dX3_isWedStill_10 fd_X3_33 t0 rfl h (fun r3 tr3 h => ?_)
  refine r_iload_n 0 dX3_isWedStill_13 rfl ?_
  obtain ⟨v4, ev4, h⟩ := bd0_some h
  refine q_cVI [.int v2] dX3_isWedStill_14 cv_X3_112 (ci := 4) rfl rfl tr3 rfl rfl (Nat.le_of_ble_eq_true rfl) (by omega) (kX4_hasGlass (d - 1) (by omega) r3 v2 tr3 v4 ev4) ?_
  refine r_if_eq 32 dX3_isWedStill_17 (by decide) h (fun _ h => ?_) (fun _ h => ?_)
  · refine r_pick [] rfl ?_
    exact tX3_isWedStill_b32 hdd σ  _ h hQ
  · refine r_aload_n 1 dX3_isWedStill_20 rfl ?_
    refine r_iload_n 0 dX3_isWedStill_21 rfl ?_
    obtain ⟨v5, ev5, h⟩ := bd0_some h
    refine q_cVI [.int v2] dX3_isWedStill_22 cv_X3_106 (ci := 3) rfl rfl t0 rfl rfl (Nat.le_of_ble_eq_true rfl) (by omega) (kX3_isLapsed (d - 1) (by omega) x0 v2 t0 v5 ev5) ?_
    refine r_if_ne 32 dX3_isWedStill_25 (by decide) h (fun _ h => ?_) (fun _ h => ?_)
    · refine r_pick [] rfl ?_
      exact tX3_isWedStill_b32 hdd σ  _ h hQ
    · refine r_iconst (v := 1) dX3_isWedStill_28 (by decide) ?_
      refine r_goto 33 dX3_isWedStill_29 (by decide) ?_
      refine r_pick [] rfl ?_
      exact tX3_isWedStill_b33 hdd σ (1 : Int32)  _ h hQ
theorem tX3_whyNotTurn_b73 {l : Launch} {G : gg} {Γ : ly} {d : Nat} {Q : Option Value → ly → mm → Prop} (hdd : 2 ≤ d) (σ : mm)  (s0 : Int32)   (r : Int32) (h : fX3_whyNotTurn_b73 Γ.2 σ s0 = some r) (hQ : Q (some (.int r)) Γ σ) : WP l G yX3_whyNotTurn cX3_whyNotTurn 3 (some .int) d 0 0 Q 0 0 73 [] [.int s0] Γ σ := by
  unfold fX3_whyNotTurn_b73 at h
  obtain rfl := Option.some.inj h
  exact r_ireturn dX3_whyNotTurn_73 rfl hQ (Nat.le_refl _) (Nat.le_refl _)
theorem tX3_whyNotTurn_b50 {l : Launch} {G : gg} {Γ : ly} {d : Nat} {Q : Option Value → ly → mm → Prop} (hdd : 2 ≤ d) (σ : mm) (x0 : Nat) (x2 : Int32)  (t0 : tyOK Γ (0, 3) x0)  (r : Int32) (h : fX3_whyNotTurn_b50 Γ.2 σ x0 x2 = some r) (hQ : Q (some (.int r)) Γ σ) : WP l G yX3_whyNotTurn cX3_whyNotTurn 3 (some .int) d 0 0 Q 0 0 50 [(0, .ref (G.2.1 x0)), (2, .int x2)] [] Γ σ := by
  unfold fX3_whyNotTurn_b50 at h
  refine r_aload_n 0 dX3_whyNotTurn_50 rfl ?_
  refine q_getR (e9 := (1, 0)) dX3_whyNotTurn_51 fd_X3_18 t0 rfl h (fun r1 tr1 h => ?_)
  refine r_iload_n 1 dX3_whyNotTurn_54 rfl ?_
  refine q_iald dX3_whyNotTurn_55 tr1 h (fun v2 h => ?_)
  refine r_aload_n 0 dX3_whyNotTurn_56 rfl ?_
  refine q_getR (e9 := (0, 4)) dX3_whyNotTurn_57 fd_X3_33 t0 rfl h (fun r3 tr3 h => ?_)
  refine q_getR (e9 := (1, 0)) dX3_whyNotTurn_60 fd_X3_58 tr3 rfl h (fun r4 tr4 h => ?_)
  refine r_iload_n 1 dX3_whyNotTurn_63 rfl ?_
  refine q_iald dX3_whyNotTurn_64 tr4 h (fun v5 h => ?_)
  refine r_icmp_ne 72 dX3_whyNotTurn_65 (by decide) h (fun _ h => ?_) (fun _ h => ?_)
  · refine r_iconst (v := 0) dX3_whyNotTurn_72 (by decide) ?_
    refine r_pick [] rfl ?_
    exact tX3_whyNotTurn_b73 hdd σ (0 : Int32)  _ h hQ
  · refine r_iconst (v := 4) dX3_whyNotTurn_68 (by decide) ?_
    refine r_goto 73 dX3_whyNotTurn_69 (by decide) ?_
    refine r_pick [] rfl ?_
    exact tX3_whyNotTurn_b73 hdd σ (4 : Int32)  _ h hQ
theorem kX3_whyNotTurn {l : Launch} {G : gg} {Γ : ly} {σ : mm} (d : Nat) (hdd : 2 ≤ d) (x0 : Nat) (x1 : Int32) (t0 : tyOK Γ (0, 3) x0) (r : Int32) (h : fX3_whyNotTurn Γ.2 σ x0 x1 = some r) : CT l G yX3_whyNotTurn cX3_whyNotTurn 3 (some .int) d 0 0 [.ref (G.2.1 x0), .int x1] Γ σ (PP (some (.int r)) Γ σ) := by
  refine CT.ofWP (by decide) (Nat.le_of_ble_eq_true rfl) ?_
  have hQ : PP (some (.int r)) Γ σ (some (.int r)) Γ σ := PP.self
  generalize PP (some (.int r)) Γ σ = Q at hQ ⊢
  show WP l G yX3_whyNotTurn cX3_whyNotTurn 3 (some .int) d 0 0 Q 0 0 0 [(0, .ref (G.2.1 x0)), (1, .int x1)] [] Γ σ
  unfold fX3_whyNotTurn at h
  refine r_aload_n 0 dX3_whyNotTurn_0 rfl ?_
  refine r_iload_n 1 dX3_whyNotTurn_1 rfl ?_
  obtain ⟨v1, ev1, h⟩ := bd0_some h
  refine q_cVI [.int x1] dX3_whyNotTurn_2 cv_X3_115 (ci := 3) rfl rfl t0 rfl rfl (Nat.le_of_ble_eq_true rfl) (by omega) (kX3_isWedStill (d - 1) (by omega) x0 x1 t0 v1 ev1) ?_
  refine r_if_ne 10 dX3_whyNotTurn_5 (by decide) h (fun _ h => ?_) (fun _ h => ?_)
  · refine r_aload_n 0 dX3_whyNotTurn_10 rfl ?_
    refine r_iload_n 1 dX3_whyNotTurn_11 rfl ?_
    obtain ⟨v2, ev2, h⟩ := bd0_some h
    refine q_cVI [.int x1] dX3_whyNotTurn_12 cv_X3_81 (ci := 3) rfl rfl t0 rfl rfl (Nat.le_of_ble_eq_true rfl) (by omega) (kX3_isAwake (d - 1) (by omega) x0 x1 t0 v2 ev2) ?_
    refine r_if_ne 20 dX3_whyNotTurn_15 (by decide) h (fun _ h => ?_) (fun _ h => ?_)
    · refine r_aload_n 0 dX3_whyNotTurn_20 rfl ?_
      refine q_getR (e9 := (0, 4)) dX3_whyNotTurn_21 fd_X3_33 t0 rfl h (fun r3 tr3 h => ?_)
      refine r_iload_n 1 dX3_whyNotTurn_24 rfl ?_
      obtain ⟨v4, ev4, h⟩ := bd0_some h
      refine q_cVI [.int x1] dX3_whyNotTurn_25 cv_X3_109 (ci := 4) rfl rfl tr3 rfl rfl (Nat.le_of_ble_eq_true rfl) (by omega) (kX4_glassOf (d - 1) (by omega) r3 x1 tr3 v4 ev4) ?_
      refine r_istore_n (lv' := [(2, .int v4), (0, .ref (G.2.1 x0)), (1, .int x1)]) dX3_whyNotTurn_28 (by decide) rfl ?_
      refine r_aload_n 1 dX3_whyNotTurn_29 rfl ?_
      refine q_getR (e9 := (1, 0)) dX3_whyNotTurn_30 fd_X3_18 t0 rfl h (fun r5 tr5 h => ?_)
      refine r_iload_n 0 dX3_whyNotTurn_33 rfl ?_
      refine q_iald dX3_whyNotTurn_34 tr5 h (fun v6 h => ?_)
      refine r_if_le 50 dX3_whyNotTurn_35 (by decide) h (fun _ h => ?_) (fun _ h => ?_)
      · refine r_pick [1, 0] rfl ?_
        exact tX3_whyNotTurn_b50 hdd σ x0 v4 t0 _ h hQ
      · refine r_aload_n 1 dX3_whyNotTurn_38 rfl ?_
        refine q_getR (e9 := (0, 4)) dX3_whyNotTurn_39 fd_X3_33 t0 rfl h (fun r7 tr7 h => ?_)
        refine r_getI dX3_whyNotTurn_42 fd_X3_118 tr7 ?_
        refine r_if_ne 50 dX3_whyNotTurn_45 (by decide) h (fun _ h => ?_) (fun _ h => ?_)
        · refine r_pick [1, 0] rfl ?_
          exact tX3_whyNotTurn_b50 hdd σ x0 v4 t0 _ h hQ
        · refine r_iconst (v := 3) dX3_whyNotTurn_48 (by decide) ?_
          obtain rfl := Option.some.inj h
          exact r_ireturn dX3_whyNotTurn_49 rfl hQ (Nat.le_refl _) (Nat.le_refl _)
    · refine r_iconst (v := 2) dX3_whyNotTurn_18 (by decide) ?_
      obtain rfl := Option.some.inj h
      exact r_ireturn dX3_whyNotTurn_19 rfl hQ (Nat.le_refl _) (Nat.le_refl _)
  · refine r_iconst (v := 1) dX3_whyNotTurn_8 (by decide) ?_
    obtain rfl := Option.some.inj h
    exact r_ireturn dX3_whyNotTurn_9 rfl hQ (Nat.le_refl _) (Nat.le_refl _)
theorem tX3_whyNotWoo_b23 {l : Launch} {G : gg} {Γ : ly} {d : Nat} {Q : Option Value → ly → mm → Prop} (hdd : 2 ≤ d) (σ : mm)  (s0 : Int32)   (r : Int32) (h : fX3_whyNotWoo_b23 Γ.2 σ s0 = some r) (hQ : Q (some (.int r)) Γ σ) : WP l G yX3_whyNotWoo cX3_whyNotWoo 2 (some .int) d 0 0 Q 0 0 23 [] [.int s0] Γ σ := by
  unfold fX3_whyNotWoo_b23 at h
  obtain rfl := Option.some.inj h
  exact r_ireturn dX3_whyNotWoo_23 rfl hQ (Nat.le_refl _) (Nat.le_refl _)
theorem kX3_whyNotWoo {l : Launch} {G : gg} {Γ : ly} {σ : mm} (d : Nat) (hdd : 2 ≤ d) (x0 : Nat) (x1 : Int32) (t0 : tyOK Γ (0, 3) x0) (r : Int32) (h : fX3_whyNotWoo Γ.2 σ x0 x1 = some r) : CT l G yX3_whyNotWoo cX3_whyNotWoo 2 (some .int) d 0 0 [.ref (G.2.1 x0), .int x1] Γ σ (PP (some (.int r)) Γ σ) := by
  refine CT.ofWP (by decide) (Nat.le_of_ble_eq_true rfl) ?_
  have hQ : PP (some (.int r)) Γ σ (some (.int r)) Γ σ := PP.self
  generalize PP (some (.int r)) Γ σ = Q at hQ ⊢
  show WP l G yX3_whyNotWoo cX3_whyNotWoo 2 (some .int) d 0 0 Q 0 0 0 [(0, .ref (G.2.1 x0)), (1, .int x1)] [] Γ σ
  unfold fX3_whyNotWoo at h
  refine r_aload_n 0 dX3_whyNotWoo_0 rfl ?_
  refine r_iload_n 1 dX3_whyNotWoo_1 rfl ?_
  obtain ⟨v1, ev1, h⟩ := bd0_some h
  refine q_cVI [.int x1] dX3_whyNotWoo_2 cv_X3_115 (ci := 3) rfl rfl t0 rfl rfl (Nat.le_of_ble_eq_true rfl) (by omega) (kX3_isWedStill (d - 1) (by omega) x0 x1 t0 v1 ev1) ?_
  refine r_if_ne 10 dX3_whyNotWoo_5 (by decide) h (fun _ h => ?_) (fun _ h => ?_)
  · refine r_aload_n 0 dX3_whyNotWoo_10 rfl ?_
    refine r_iload_n 1 dX3_whyNotWoo_11 rfl ?_
    obtain ⟨v2, ev2, h⟩ := bd0_some h
    refine q_cVI [.int x1] dX3_whyNotWoo_12 cv_X3_81 (ci := 3) rfl rfl t0 rfl rfl (Nat.le_of_ble_eq_true rfl) (by omega) (kX3_isAwake (d - 1) (by omega) x0 x1 t0 v2 ev2) ?_
    refine r_if_eq 22 dX3_whyNotWoo_15 (by decide) h (fun _ h => ?_) (fun _ h => ?_)
    · refine r_iconst (v := 2) dX3_whyNotWoo_22 (by decide) ?_
      refine r_pick [] rfl ?_
      exact tX3_whyNotWoo_b23 hdd σ (2 : Int32)  _ h hQ
    · refine r_iconst (v := 0) dX3_whyNotWoo_18 (by decide) ?_
      refine r_goto 23 dX3_whyNotWoo_19 (by decide) ?_
      refine r_pick [] rfl ?_
      exact tX3_whyNotWoo_b23 hdd σ (0 : Int32)  _ h hQ
  · refine r_iconst (v := 1) dX3_whyNotWoo_8 (by decide) ?_
    obtain rfl := Option.some.inj h
    exact r_ireturn dX3_whyNotWoo_9 rfl hQ (Nat.le_refl _) (Nat.le_refl _)
theorem tX3_whyNot_b59 {l : Launch} {G : gg} {Γ : ly} {d : Nat} {Q : Option Value → ly → mm → Prop} (hdd : 3 ≤ d) (σ : mm)  (s0 : Int32)   (r : Int32) (h : fX3_whyNot_b59 Γ.2 σ s0 = some r) (hQ : Q (some (.int r)) Γ σ) : WP l G yX3_whyNot cX3_whyNot 4 (some .int) d 0 0 Q 0 0 59 [] [.int s0] Γ σ := by
  unfold fX3_whyNot_b59 at h
  obtain rfl := Option.some.inj h
  exact r_ireturn dX3_whyNot_59 rfl hQ (Nat.le_refl _) (Nat.le_refl _)
theorem tX3_whyNot_b103 {l : Launch} {G : gg} {Γ : ly} {d : Nat} {Q : Option Value → ly → mm → Prop} (hdd : 3 ≤ d) (σ : mm)  (s0 : Int32)   (r : Int32) (h : fX3_whyNot_b103 Γ.2 σ s0 = some r) (hQ : Q (some (.int r)) Γ σ) : WP l G yX3_whyNot cX3_whyNot 4 (some .int) d 0 0 Q 0 0 103 [] [.int s0] Γ σ := by
  unfold fX3_whyNot_b103 at h
  obtain rfl := Option.some.inj h
  exact r_ireturn dX3_whyNot_103 rfl hQ (Nat.le_refl _) (Nat.le_refl _)
theorem tX3_whyNot_b131 {l : Launch} {G : gg} {Γ : ly} {d : Nat} {Q : Option Value → ly → mm → Prop} (hdd : 3 ≤ d) (σ : mm)  (s0 : Int32)   (r : Int32) (h : fX3_whyNot_b131 Γ.2 σ s0 = some r) (hQ : Q (some (.int r)) Γ σ) : WP l G yX3_whyNot cX3_whyNot 4 (some .int) d 0 0 Q 0 0 131 [] [.int s0] Γ σ := by
  unfold fX3_whyNot_b131 at h
  obtain rfl := Option.some.inj h
  exact r_ireturn dX3_whyNot_131 rfl hQ (Nat.le_refl _) (Nat.le_refl _)
theorem tX3_whyNot_b149 {l : Launch} {G : gg} {Γ : ly} {d : Nat} {Q : Option Value → ly → mm → Prop} (hdd : 3 ≤ d) (σ : mm)  (s0 : Int32)   (r : Int32) (h : fX3_whyNot_b149 Γ.2 σ s0 = some r) (hQ : Q (some (.int r)) Γ σ) : WP l G yX3_whyNot cX3_whyNot 4 (some .int) d 0 0 Q 0 0 149 [] [.int s0] Γ σ := by
  unfold fX3_whyNot_b149 at h
  obtain rfl := Option.some.inj h
  exact r_ireturn dX3_whyNot_149 rfl hQ (Nat.le_refl _) (Nat.le_refl _)
theorem kX3_whyNot {l : Launch} {G : gg} {Γ : ly} {σ : mm} (d : Nat) (hdd : 3 ≤ d) (x0 : Nat) (x1 : Int32) (x2 : Int32) (x3 : Int32) (t0 : tyOK Γ (0, 3) x0) (r : Int32) (h : fX3_whyNot Γ.2 σ x0 x1 x2 x3 = some r) : CT l G yX3_whyNot cX3_whyNot 4 (some .int) d 0 0 [.ref (G.2.1 x0), .int x1, .int x2, .int x3] Γ σ (PP (some (.int r)) Γ σ) := by
  refine CT.ofWP (by decide) (Nat.le_of_ble_eq_true rfl) ?_
  have hQ : PP (some (.int r)) Γ σ (some (.int r)) Γ σ := PP.self
  generalize PP (some (.int r)) Γ σ = Q at hQ ⊢
  show WP l G yX3_whyNot cX3_whyNot 4 (some .int) d 0 0 Q 0 0 0 [(0, .ref (G.2.1 x0)), (1, .int x1), (2, .int x2), (3, .int x3)] [] Γ σ
  unfold fX3_whyNot at h
  refine r_iload_n 1 dX3_whyNot_0 rfl ?_
  rcases if_split h with ⟨q9, h⟩ | ⟨n0, h⟩
  · refine r_table (0 : Int32) 39 40 dX3_whyNot_1 q9 (by decide) (by decide) rfl (by decide) ?_
    refine r_aload_n 0 dX3_whyNot_40 rfl ?_
    refine r_iload_n 2 dX3_whyNot_41 rfl ?_
    obtain ⟨v1, ev1, h⟩ := bd0_some h
    refine q_cVI [.int x2] dX3_whyNot_42 cv_X3_96 (ci := 3) rfl rfl t0 rfl rfl (Nat.le_of_ble_eq_true rfl) (by omega) (kX3_whyNotTurn (d - 1) (by omega) x0 x2 t0 v1 ev1) ?_
    obtain rfl := Option.some.inj h
    exact r_ireturn dX3_whyNot_45 rfl hQ (Nat.le_refl _) (Nat.le_refl _)
  rcases if_split h with ⟨q9, h⟩ | ⟨n1, h⟩
  · refine r_table (1 : Int32) 45 46 dX3_whyNot_1 q9 (by decide) (by decide) rfl (by decide) ?_
    refine r_aload_n 0 dX3_whyNot_46 rfl ?_
    refine r_iload_n 2 dX3_whyNot_47 rfl ?_
    obtain ⟨v2, ev2, h⟩ := bd0_some h
    refine q_cVI [.int x2] dX3_whyNot_48 cv_X3_81 (ci := 3) rfl rfl t0 rfl rfl (Nat.le_of_ble_eq_true rfl) (by omega) (kX3_isAwake (d - 1) (by omega) x0 x2 t0 v2 ev2) ?_
    refine r_if_eq 58 dX3_whyNot_51 (by decide) h (fun _ h => ?_) (fun _ h => ?_)
    · refine r_iconst (v := 0) dX3_whyNot_58 (by decide) ?_
      refine r_pick [] rfl ?_
      exact tX3_whyNot_b59 hdd σ (0 : Int32)  _ h hQ
    · refine r_iconst (v := 1) dX3_whyNot_54 (by decide) ?_
      refine r_goto 59 dX3_whyNot_55 (by decide) ?_
      refine r_pick [] rfl ?_
      exact tX3_whyNot_b59 hdd σ (1 : Int32)  _ h hQ
  rcases if_split h with ⟨q9, h⟩ | ⟨n2, h⟩
  · refine r_table (2 : Int32) 59 60 dX3_whyNot_1 q9 (by decide) (by decide) rfl (by decide) ?_
    refine r_aload_n 0 dX3_whyNot_60 rfl ?_
    refine r_iload_n 2 dX3_whyNot_61 rfl ?_
    obtain ⟨v3, ev3, h⟩ := bd0_some h
    refine q_cVI [.int x2] dX3_whyNot_62 cv_X3_100 (ci := 3) rfl rfl t0 rfl rfl (Nat.le_of_ble_eq_true rfl) (by omega) (kX3_whyNotWoo (d - 1) (by omega) x0 x2 t0 v3 ev3) ?_
    obtain rfl := Option.some.inj h
    exact r_ireturn dX3_whyNot_65 rfl hQ (Nat.le_refl _) (Nat.le_refl _)
  rcases if_split h with ⟨q9, h⟩ | ⟨n3, h⟩
  · refine r_table (3 : Int32) 65 66 dX3_whyNot_1 q9 (by decide) (by decide) rfl (by decide) ?_
    refine r_aload_n 0 dX3_whyNot_66 rfl ?_
    refine r_iload_n 2 dX3_whyNot_67 rfl ?_
    refine r_iload_n 3 dX3_whyNot_68 rfl ?_
    obtain ⟨v4, ev4, h⟩ := bd0_some h
    refine q_cVI [.int x2, .int x3] dX3_whyNot_69 cv_X3_103 (ci := 3) rfl rfl t0 rfl rfl (Nat.le_of_ble_eq_true rfl) (by omega) (kX3_whyNotTilt (d - 1) (by omega) x0 x2 x3 t0 v4 ev4) ?_
    obtain rfl := Option.some.inj h
    exact r_ireturn dX3_whyNot_72 rfl hQ (Nat.le_refl _) (Nat.le_refl _)
  rcases if_split h with ⟨q9, h⟩ | ⟨n4, h⟩
  · refine r_table (4 : Int32) 72 73 dX3_whyNot_1 q9 (by decide) (by decide) rfl (by decide) ?_
    refine r_aload_n 0 dX3_whyNot_73 rfl ?_
    refine r_iload_n 2 dX3_whyNot_74 rfl ?_
    obtain ⟨v5, ev5, h⟩ := bd0_some h
    refine q_cVI [.int x2] dX3_whyNot_75 cv_X3_106 (ci := 3) rfl rfl t0 rfl rfl (Nat.le_of_ble_eq_true rfl) (by omega) (kX3_isLapsed (d - 1) (by omega) x0 x2 t0 v5 ev5) ?_
    refine r_if_eq 85 dX3_whyNot_78 (by decide) h (fun _ h => ?_) (fun _ h => ?_)
    · refine r_aload_n 0 dX3_whyNot_85 rfl ?_
      refine q_getR (e9 := (1, 0)) dX3_whyNot_86 fd_X3_24 t0 rfl h (fun r6 tr6 h => ?_)
      refine r_iload_n 2 dX3_whyNot_89 rfl ?_
      refine q_iald dX3_whyNot_90 tr6 h (fun v7 h => ?_)
      refine r_iload_n 3 dX3_whyNot_91 rfl ?_
      refine r_iadd dX3_whyNot_92 ?_
      refine r_bipush (v := 9) dX3_whyNot_93 (by decide) ?_
      refine r_icmp_le 102 dX3_whyNot_95 (by decide) h (fun _ h => ?_) (fun _ h => ?_)
      · refine r_iconst (v := 0) dX3_whyNot_102 (by decide) ?_
        refine r_pick [] rfl ?_
        exact tX3_whyNot_b103 hdd σ (0 : Int32)  _ h hQ
      · refine r_iconst (v := 2) dX3_whyNot_98 (by decide) ?_
        refine r_goto 103 dX3_whyNot_99 (by decide) ?_
        refine r_pick [] rfl ?_
        exact tX3_whyNot_b103 hdd σ (2 : Int32)  _ h hQ
    · refine r_iconst (v := 1) dX3_whyNot_81 (by decide) ?_
      refine r_goto 103 dX3_whyNot_82 (by decide) ?_
      refine r_pick [] rfl ?_
      exact tX3_whyNot_b103 hdd σ (1 : Int32)  _ h hQ
  rcases if_split h with ⟨q9, h⟩ | ⟨n5, h⟩
  · refine r_table (5 : Int32) 103 104 dX3_whyNot_1 q9 (by decide) (by decide) rfl (by decide) ?_
    refine r_aload_n 0 dX3_whyNot_104 rfl ?_
    refine r_iload_n 2 dX3_whyNot_105 rfl ?_
    obtain ⟨v8, ev8, h⟩ := bd0_some h
    refine q_cVI [.int x2] dX3_whyNot_106 cv_X3_106 (ci := 3) rfl rfl t0 rfl rfl (Nat.le_of_ble_eq_true rfl) (by omega) (kX3_isLapsed (d - 1) (by omega) x0 x2 t0 v8 ev8) ?_
    refine r_if_eq 116 dX3_whyNot_109 (by decide) h (fun _ h => ?_) (fun _ h => ?_)
    · refine r_aload_n 0 dX3_whyNot_116 rfl ?_
      refine q_getR (e9 := (1, 0)) dX3_whyNot_117 fd_X3_18 t0 rfl h (fun r9 tr9 h => ?_)
      refine r_iload_n 2 dX3_whyNot_120 rfl ?_
      refine q_iald dX3_whyNot_121 tr9 h (fun v10 h => ?_)
      refine r_iload_n 3 dX3_whyNot_122 rfl ?_
      refine r_icmp_ge 130 dX3_whyNot_123 (by decide) h (fun _ h => ?_) (fun _ h => ?_)
      · refine r_iconst (v := 0) dX3_whyNot_130 (by decide) ?_
        refine r_pick [] rfl ?_
        exact tX3_whyNot_b131 hdd σ (0 : Int32)  _ h hQ
      · refine r_iconst (v := 2) dX3_whyNot_126 (by decide) ?_
        refine r_goto 131 dX3_whyNot_127 (by decide) ?_
        refine r_pick [] rfl ?_
        exact tX3_whyNot_b131 hdd σ (2 : Int32)  _ h hQ
    · refine r_iconst (v := 1) dX3_whyNot_112 (by decide) ?_
      refine r_goto 131 dX3_whyNot_113 (by decide) ?_
      refine r_pick [] rfl ?_
      exact tX3_whyNot_b131 hdd σ (1 : Int32)  _ h hQ
  have n0 := ne_int n0 (z := 0) rfl
  have n1 := ne_int n1 (z := 1) rfl
  have n2 := ne_int n2 (z := 2) rfl
  have n3 := ne_int n3 (z := 3) rfl
  have n4 := ne_int n4 (z := 4) rfl
  have n5 := ne_int n5 (z := 5) rfl
  refine r_tableD 132 dX3_whyNot_1 (by omega) (by decide) ?_
  refine r_iload_n 3 dX3_whyNot_132 rfl ?_
  refine r_sipush (v := 600) dX3_whyNot_133 (by decide) ?_
  refine r_aload_n 0 dX3_whyNot_136 rfl ?_
  refine r_getI dX3_whyNot_137 fd_X3_37 t0 ?_
  refine r_isub dX3_whyNot_140 ?_
  refine r_icmp_le 148 dX3_whyNot_141 (by decide) h (fun _ h => ?_) (fun _ h => ?_)
  · refine r_iconst (v := 0) dX3_whyNot_148 (by decide) ?_
    refine r_pick [] rfl ?_
    exact tX3_whyNot_b149 hdd σ (0 : Int32)  _ h hQ
  · refine r_iconst (v := 1) dX3_whyNot_144 (by decide) ?_
    refine r_goto 149 dX3_whyNot_145 (by decide) ?_
    refine r_pick [] rfl ?_
    exact tX3_whyNot_b149 hdd σ (1 : Int32)  _ h hQ
theorem tX4_hasPerson_b17 {l : Launch} {G : gg} {Γ : ly} {d : Nat} {Q : Option Value → ly → mm → Prop} (hdd : 0 ≤ d) (σ : mm)  (s0 : Int32)   (r : Int32) (h : fX4_hasPerson_b17 Γ.2 σ s0 = some r) (hQ : Q (some (.int r)) Γ σ) : WP l G yX4_hasPerson cX4_hasPerson 2 (some .boolean) d 0 0 Q 0 0 17 [] [.int s0] Γ σ := by
  unfold fX4_hasPerson_b17 at h
  obtain ⟨hbz, h⟩ := rZ_some h
  obtain rfl := Option.some.inj h
  exact r_zreturn dX4_hasPerson_17 rfl hbz hQ (Nat.le_refl _) (Nat.le_refl _)
theorem tX4_hasPerson_b16 {l : Launch} {G : gg} {Γ : ly} {d : Nat} {Q : Option Value → ly → mm → Prop} (hdd : 0 ≤ d) (σ : mm)     (r : Int32) (h : fX4_hasPerson_b16 Γ.2 σ  = some r) (hQ : Q (some (.int r)) Γ σ) : WP l G yX4_hasPerson cX4_hasPerson 2 (some .boolean) d 0 0 Q 0 0 16 [] [] Γ σ := by
  unfold fX4_hasPerson_b16 at h
  refine r_iconst (v := 0) dX4_hasPerson_16 (by decide) ?_
  exact tX4_hasPerson_b17 hdd σ (0 : Int32)  _ h hQ
theorem kX4_hasPerson {l : Launch} {G : gg} {Γ : ly} {σ : mm} (d : Nat) (hdd : 0 ≤ d) (x0 : Nat) (x1 : Int32) (t0 : tyOK Γ (0, 4) x0) (r : Int32) (h : fX4_hasPerson Γ.2 σ x0 x1 = some r) : CT l G yX4_hasPerson cX4_hasPerson 2 (some .boolean) d 0 0 [.ref (G.2.1 x0), .int x1] Γ σ (PP (some (.int r)) Γ σ) := by
  refine CT.ofWP (by decide) (Nat.le_of_ble_eq_true rfl) ?_
  have hQ : PP (some (.int r)) Γ σ (some (.int r)) Γ σ := PP.self
  generalize PP (some (.int r)) Γ σ = Q at hQ ⊢
  show WP l G yX4_hasPerson cX4_hasPerson 2 (some .boolean) d 0 0 Q 0 0 0 [(0, .ref (G.2.1 x0)), (1, .int x1)] [] Γ σ
  unfold fX4_hasPerson at h
  refine r_iload_n 1 dX4_hasPerson_0 rfl ?_
  refine r_if_lt 16 dX4_hasPerson_1 (by decide) h (fun _ h => ?_) (fun _ h => ?_)
  · refine r_pick [] rfl ?_
    exact tX4_hasPerson_b16 hdd σ  _ h hQ
  · refine r_iload_n 1 dX4_hasPerson_4 rfl ?_
    refine r_aload_n 0 dX4_hasPerson_5 rfl ?_
    refine r_getI dX4_hasPerson_6 fd_X4_63 t0 ?_
    refine r_icmp_ge 16 dX4_hasPerson_9 (by decide) h (fun _ h => ?_) (fun _ h => ?_)
    · refine r_pick [] rfl ?_
      exact tX4_hasPerson_b16 hdd σ  _ h hQ
    · refine r_iconst (v := 1) dX4_hasPerson_12 (by decide) ?_
      refine r_goto 17 dX4_hasPerson_13 (by decide) ?_
      refine r_pick [] rfl ?_
      exact tX4_hasPerson_b17 hdd σ (1 : Int32)  _ h hQ
theorem tX3_endear_b30 {l : Launch} {G : gg} {Γ : ly} {d : Nat} {Q : Option Value → ly → mm → Prop} (hdd : 1 ≤ d) (σ : mm)     (r : mm) (h : fX3_endear_b30 Γ.2 σ  = some r) (hQ : Q none Γ r) : WP l G yX3_endear cX3_endear 3 (none) d 0 0 Q 0 0 30 [] [] Γ σ := by
  unfold fX3_endear_b30 at h
  obtain rfl := Option.some.inj h
  exact r_return dX3_endear_30 rfl hQ (Nat.le_refl _) (Nat.le_refl _)
theorem kX3_endear {l : Launch} {G : gg} {Γ : ly} {σ : mm} (d : Nat) (hdd : 1 ≤ d) (x0 : Nat) (x1 : Int32) (x2 : Int32) (t0 : tyOK Γ (0, 3) x0) (r : mm) (h : fX3_endear Γ.2 σ x0 x1 x2 = some r) : CT l G yX3_endear cX3_endear 3 (none) d 0 0 [.ref (G.2.1 x0), .int x1, .int x2] Γ σ (PP none Γ r) := by
  refine CT.ofWP (by decide) (Nat.le_of_ble_eq_true rfl) ?_
  have hQ : PP none Γ r none Γ r := PP.self
  generalize PP none Γ r = Q at hQ ⊢
  show WP l G yX3_endear cX3_endear 3 (none) d 0 0 Q 0 0 0 [(0, .ref (G.2.1 x0)), (1, .int x1), (2, .int x2)] [] Γ σ
  unfold fX3_endear at h
  refine r_aload_n 0 dX3_endear_0 rfl ?_
  refine q_getR (e9 := (0, 4)) dX3_endear_1 fd_X3_33 t0 rfl h (fun r1 tr1 h => ?_)
  refine r_iload_n 1 dX3_endear_4 rfl ?_
  obtain ⟨v2, ev2, h⟩ := bd0_some h
  refine q_cVI [.int x1] dX3_endear_5 cv_X3_135 (ci := 4) rfl rfl tr1 rfl rfl (Nat.le_of_ble_eq_true rfl) (by omega) (kX4_hasPerson (d - 1) (by omega) r1 x1 tr1 v2 ev2) ?_
  refine r_if_eq 30 dX3_endear_8 (by decide) h (fun _ h => ?_) (fun _ h => ?_)
  · refine r_pick [] rfl ?_
    exact tX3_endear_b30 hdd σ  _ h hQ
  · refine r_aload_n 0 dX3_endear_11 rfl ?_
    refine q_getR (e9 := (1, 0)) dX3_endear_12 fd_X3_9 t0 rfl h (fun r3 tr3 h => ?_)
    refine r_iload_n 1 dX3_endear_15 rfl ?_
    refine r_bipush (v := 99) dX3_endear_16 (by decide) ?_
    refine r_aload_n 0 dX3_endear_18 rfl ?_
    refine q_getR (e9 := (1, 0)) dX3_endear_19 fd_X3_9 t0 rfl h (fun r4 tr4 h => ?_)
    refine r_iload_n 1 dX3_endear_22 rfl ?_
    refine q_iald dX3_endear_23 tr4 h (fun v5 h => ?_)
    refine r_iload_n 2 dX3_endear_24 rfl ?_
    refine r_iadd dX3_endear_25 ?_
    refine r_min dX3_endear_26 mx_X3_84 (Nat.le_of_ble_eq_true rfl) (by omega) (Nat.le_refl _) (Nat.le_refl _) ?_
    refine q_iast dX3_endear_29 tr3 h (fun τ6 h => ?_)
    refine r_pick [] rfl ?_
    exact tX3_endear_b30 hdd τ6  _ h hQ
