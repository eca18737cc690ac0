/-! the walks, 6 -/
theorem sX13_undo_L26 {l : Launch} {G : gg} {Γ : ly} {d : Nat} {Q : Option Value → ly → mm → Prop} (hdd : 0 ≤ d) (x0 : Nat) (t0 : tyOK Γ (0, 12) x0) {K : mm → Prop} (kx0 : ∀ (σ9 : mm), K σ9 → WP l G yX13_undo cX13_undo 2 (some .int) d 0 0 Q 0 0 61 [(0, .ref (G.2.1 x0))] [] Γ σ9) : ∀ (N : Nat) (s : (Int32 × mm)) (b : mm), loopN (fX13_undo_L26 Γ.2 x0) N s = some b → K b → WP l G yX13_undo cX13_undo 2 (some .int) d 0 0 Q 0 0 26 [(0, .ref (G.2.1 x0)), (1, .int s.1)] [] Γ s.2 := by
  refine r_loop (f := fX13_undo_L26 Γ.2 x0) (hlv := fun s => [(0, .ref (G.2.1 x0)), (1, .int s.1)]) (hsg := fun s => s.2) ?_
  rintro ⟨x1, σ⟩ r h hb hx
  have hb : ∀ (x1 : Int32) (σ : mm), r = .inl (x1, σ) → WP l G yX13_undo cX13_undo 2 (some .int) d 0 0 Q 0 0 26 [(0, .ref (G.2.1 x0)), (1, .int x1)] [] Γ σ := fun x1 σ e => hb (x1, σ) e
  have hx0 : ∀ (σ9 : mm), r = .inr σ9 → WP l G yX13_undo cX13_undo 2 (some .int) d 0 0 Q 0 0 61 [(0, .ref (G.2.1 x0))] [] Γ σ9 := fun σ9 e => kx0 σ9 (hx _ e)
  unfold fX13_undo_L26 at h
  have h := un2_some h
  show WP l G yX13_undo cX13_undo 2 (some .int) d 0 0 Q 0 0 26 [(0, .ref (G.2.1 x0)), (1, .int x1)] [] Γ σ
  refine r_iload_n 1 dX13_undo_26 rfl ?_
  refine r_bipush (v := 39) dX13_undo_27 (by decide) ?_
  refine r_icmp_ge 61 dX13_undo_29 (by decide) h (fun _ h => ?_) (fun _ h => ?_)
  · obtain rfl := Option.some.inj h
    refine r_pick [0] rfl ?_
    exact hx0 _ rfl
  · refine r_aload_n 0 dX13_undo_32 rfl ?_
    refine q_getR (e9 := (1, 0)) dX13_undo_33 fd_X13_98 t0 rfl h (fun r1 tr1 h => ?_)
    refine r_bipush (v := 102) dX13_undo_36 (by decide) ?_
    refine r_iload_n 1 dX13_undo_38 rfl ?_
    refine r_iadd dX13_undo_39 ?_
    refine r_aload_n 0 dX13_undo_40 rfl ?_
    refine q_getR (e9 := (1, 0)) dX13_undo_41 fd_X13_107 t0 rfl h (fun r2 tr2 h => ?_)
    refine r_bipush (v := 39) dX13_undo_44 (by decide) ?_
    refine r_aload_n 0 dX13_undo_46 rfl ?_
    refine r_getI dX13_undo_47 fd_X13_221 t0 ?_
    refine r_imul dX13_undo_50 ?_
    refine r_iload_n 1 dX13_undo_51 rfl ?_
    refine r_iadd dX13_undo_52 ?_
    refine q_iald dX13_undo_53 tr2 h (fun v3 h => ?_)
    refine q_iast dX13_undo_54 tr1 h (fun τ4 h => ?_)
    refine q_iinc (v := 1) 1 (fun v5 => [(1, .int v5), (0, .ref (G.2.1 x0))]) dX13_undo_55 rfl (by decide) (by decide) (fun _ => rfl) h (fun v5 h => ?_)
    refine r_goto 26 dX13_undo_58 (by decide) ?_
    obtain rfl := Option.some.inj h
    refine r_pick [1, 0] rfl ?_
    exact hb _ _ rfl
theorem kX13_undo {l : Launch} {G : gg} {Γ : ly} {σ : mm} (d : Nat) (hdd : 0 ≤ d) (x0 : Nat) (t0 : tyOK Γ (0, 12) x0) (r : (Int32 × mm)) (h : fX13_undo Γ.2 σ x0 = some r) : CT l G yX13_undo cX13_undo 2 (some .int) d 0 0 [.ref (G.2.1 x0)] Γ σ (PP (some (.int r.1)) Γ r.2) := by
  refine CT.ofWP (by decide) (Nat.le_of_ble_eq_true rfl) ?_
  have hQ : PP (some (.int r.1)) Γ r.2 (some (.int r.1)) Γ r.2 := PP.self
  generalize PP (some (.int r.1)) Γ r.2 = Q at hQ ⊢
  show WP l G yX13_undo cX13_undo 2 (some .int) d 0 0 Q 0 0 0 [(0, .ref (G.2.1 x0))] [] Γ σ
  unfold fX13_undo at h
  refine r_aload_n 0 dX13_undo_0 rfl ?_
  refine r_iconst (v := 0) dX13_undo_1 (by decide) ?_
  refine q_putI dX13_undo_2 fd_X13_1 t0 h (fun τ1 h => ?_)
  refine r_aload_n 0 dX13_undo_5 rfl ?_
  refine r_getI dX13_undo_6 fd_X13_221 t0 ?_
  refine r_if_ne 14 dX13_undo_9 (by decide) h (fun _ h => ?_) (fun _ h => ?_)
  · refine r_aload_n 0 dX13_undo_14 rfl ?_
    refine r_dup dX13_undo_15 rfl ?_
    refine r_getI dX13_undo_16 fd_X13_221 t0 ?_
    refine r_iconst (v := 1) dX13_undo_19 (by decide) ?_
    refine r_isub dX13_undo_20 ?_
    refine q_putI dX13_undo_21 fd_X13_221 t0 h (fun τ2 h => ?_)
    refine r_iconst (v := 0) dX13_undo_24 (by decide) ?_
    refine r_istore_n (lv' := [(1, .int (0 : Int32)), (0, .ref (G.2.1 x0))]) dX13_undo_25 (by decide) rfl ?_
    obtain ⟨b3, eb3, h⟩ := bd0_some h
    refine r_pick [1, 0] rfl ?_
    refine sX13_undo_L26 hdd x0 t0 (K := fun b => b = b3) ?_ 1000 ((0 : Int32), τ2) b3 eb3 rfl
    rintro τ4 rfl
    refine r_aload_n 0 dX13_undo_61 rfl ?_
    refine r_getI dX13_undo_62 fd_X13_221 t0 ?_
    obtain rfl := Option.some.inj h
    exact r_ireturn dX13_undo_65 rfl hQ (Nat.le_refl _) (Nat.le_refl _)
  · refine r_iconst (v := -1) dX13_undo_12 (by decide) ?_
    obtain rfl := Option.some.inj h
    exact r_ireturn dX13_undo_13 rfl hQ (Nat.le_refl _) (Nat.le_refl _)
theorem tX13_ended_b123 {l : Launch} {G : gg} {Γ : ly} {d : Nat} {Q : Option Value → ly → mm → Prop} (hdd : 4 ≤ d) (σ : mm)     (r : mm) (h : fX13_ended_b123 Γ.2 σ  = some r) (hQ : Q none Γ r) : WP l G yX13_ended cX13_ended 4 (none) d 0 0 Q 0 0 123 [] [] Γ σ := by
  unfold fX13_ended_b123 at h
  obtain rfl := Option.some.inj h
  exact r_return dX13_ended_123 rfl hQ (Nat.le_refl _) (Nat.le_refl _)
theorem tX13_ended_b65 {l : Launch} {G : gg} {Γ : ly} {d : Nat} {Q : Option Value → ly → mm → Prop} (hdd : 4 ≤ d) (σ : mm) (x0 : Nat) (x1 : Int32) (s0 : Int32) (t0 : tyOK Γ (0, 12) x0)  (r : mm) (h : fX13_ended_b65 Γ.2 σ x0 x1 s0 = some r) (hQ : Q none Γ r) : WP l G yX13_ended cX13_ended 4 (none) d 0 0 Q 0 0 65 [(0, .ref (G.2.1 x0)), (1, .int x1)] [.int s0] Γ σ := by
  unfold fX13_ended_b65 at h
  refine r_istore_n (lv' := [(3, .int s0), (0, .ref (G.2.1 x0)), (1, .int x1)]) dX13_ended_65 (by decide) rfl ?_
  refine r_iload_n 0 dX13_ended_66 rfl ?_
  refine r_iconst (v := -1) dX13_ended_67 (by decide) ?_
  refine r_icmp_eq 77 dX13_ended_68 (by decide) h (fun _ h => ?_) (fun _ h => ?_)
  · refine r_aload_n 1 dX13_ended_77 rfl ?_
    refine q_getR (e9 := (1, 0)) dX13_ended_78 fd_X13_98 t0 rfl h (fun r1 tr1 h => ?_)
    refine r_sipush (v := 133) dX13_ended_81 (by decide) ?_
    refine r_iload_n 2 dX13_ended_84 rfl ?_
    refine r_iadd dX13_ended_85 ?_
    refine r_dup2 dX13_ended_86 rfl rfl ?_
    refine q_iald dX13_ended_87 tr1 h (fun v2 h => ?_)
    refine r_iconst (v := 1) dX13_ended_88 (by decide) ?_
    refine r_iadd dX13_ended_89 ?_
    refine q_iast dX13_ended_90 tr1 h (fun τ3 h => ?_)
    refine r_aload_n 1 dX13_ended_91 rfl ?_
    refine q_getR (e9 := (1, 0)) dX13_ended_92 fd_X13_98 t0 rfl h (fun r4 tr4 h => ?_)
    refine r_sipush (v := 133) dX13_ended_95 (by decide) ?_
    refine r_iload_n 2 dX13_ended_98 rfl ?_
    refine r_iadd dX13_ended_99 ?_
    refine q_iald dX13_ended_100 tr4 h (fun v5 h => ?_)
    refine r_aload_n 1 dX13_ended_101 rfl ?_
    refine q_getR (e9 := (1, 0)) dX13_ended_102 fd_X13_98 t0 rfl h (fun r6 tr6 h => ?_)
    refine r_iconst (v := 3) dX13_ended_105 (by decide) ?_
    refine q_iald dX13_ended_106 tr6 h (fun v7 h => ?_)
    refine r_icmp_lt 123 dX13_ended_107 (by decide) h (fun _ h => ?_) (fun _ h => ?_)
    · refine r_pick [] rfl ?_
      exact tX13_ended_b123 hdd τ3  _ h hQ
    · refine r_aload_n 1 dX13_ended_110 rfl ?_
      refine q_getR (e9 := (1, 0)) dX13_ended_111 fd_X13_98 t0 rfl h (fun r8 tr8 h => ?_)
      refine r_bipush (v := 104) dX13_ended_114 (by decide) ?_
      refine r_dup2 dX13_ended_116 rfl rfl ?_
      refine q_iald dX13_ended_117 tr8 h (fun v9 h => ?_)
      refine r_iconst (v := 1) dX13_ended_118 (by decide) ?_
      refine r_iload_n 2 dX13_ended_119 rfl ?_
      refine r_ishl dX13_ended_120 ?_
      refine r_ior dX13_ended_121 ?_
      refine q_iast dX13_ended_122 tr8 h (fun τ10 h => ?_)
      refine r_pick [] rfl ?_
      exact tX13_ended_b123 hdd τ10  _ h hQ
  · refine r_aload_n 1 dX13_ended_71 rfl ?_
    refine r_iload_n 0 dX13_ended_72 rfl ?_
    obtain ⟨τ11, eτ11, h⟩ := bd0_some h
    refine q_cVV [.int s0] dX13_ended_73 cv_X13_282 (ci := 12) rfl rfl t0 rfl rfl (Nat.le_of_ble_eq_true rfl) (by omega) (kX13_doTurn (d - 1) (by omega) x0 s0 t0 τ11 eτ11) ?_
    obtain rfl := Option.some.inj h
    exact r_return dX13_ended_76 rfl hQ (Nat.le_refl _) (Nat.le_refl _)
theorem kX13_ended {l : Launch} {G : gg} {Γ : ly} {σ : mm} (d : Nat) (hdd : 4 ≤ d) (x0 : Nat) (x1 : Int32) (t0 : tyOK Γ (0, 12) x0) (r : mm) (h : fX13_ended Γ.2 σ x0 x1 = some r) : CT l G yX13_ended cX13_ended 4 (none) d 0 0 [.ref (G.2.1 x0), .int x1] Γ σ (PP none Γ r) := by
  refine CT.ofWP (by decide) (Nat.le_of_ble_eq_true rfl) ?_
  have hQ : PP none Γ r none Γ r := PP.self
  generalize PP none Γ r = Q at hQ ⊢
  show WP l G yX13_ended cX13_ended 4 (none) d 0 0 Q 0 0 0 [(0, .ref (G.2.1 x0)), (1, .int x1)] [] Γ σ
  unfold fX13_ended at h
  refine r_aload_n 0 dX13_ended_0 rfl ?_
  refine q_getR (e9 := (1, 0)) dX13_ended_1 fd_X13_98 t0 rfl h (fun r1 tr1 h => ?_)
  refine r_bipush (v := 56) dX13_ended_4 (by decide) ?_
  refine r_iload_n 1 dX13_ended_6 rfl ?_
  refine r_iadd dX13_ended_7 ?_
  refine q_iald dX13_ended_8 tr1 h (fun v2 h => ?_)
  refine r_istore_n (lv' := [(2, .int v2), (0, .ref (G.2.1 x0)), (1, .int x1)]) dX13_ended_9 (by decide) rfl ?_
  refine r_aload_n 1 dX13_ended_10 rfl ?_
  refine r_iload_n 0 dX13_ended_11 rfl ?_
  refine r_aload_n 1 dX13_ended_12 rfl ?_
  refine q_getR (e9 := (1, 0)) dX13_ended_13 fd_X13_98 t0 rfl h (fun r3 tr3 h => ?_)
  refine r_bipush (v := 102) dX13_ended_16 (by decide) ?_
  refine q_iald dX13_ended_18 tr3 h (fun v4 h => ?_)
  obtain ⟨v5, ev5, h⟩ := bd0_some h
  refine q_cVI [.int v2, .int v4] dX13_ended_19 cv_X13_255 (ci := 12) rfl rfl t0 rfl rfl (Nat.le_of_ble_eq_true rfl) (by omega) (kX13_isWilling (d - 1) (by omega) x0 v2 v4 t0 v5 ev5) ?_
  refine r_if_eq 29 dX13_ended_22 (by decide) h (fun _ h => ?_) (fun _ h => ?_)
  · refine r_aload_n 1 dX13_ended_29 rfl ?_
    refine r_aload_n 1 dX13_ended_30 rfl ?_
    refine q_getR (e9 := (1, 0)) dX13_ended_31 fd_X13_98 t0 rfl h (fun r6 tr6 h => ?_)
    refine r_bipush (v := 60) dX13_ended_34 (by decide) ?_
    refine r_iload_n 2 dX13_ended_36 rfl ?_
    refine r_iadd dX13_ended_37 ?_
    refine q_iald dX13_ended_38 tr6 h (fun v7 h => ?_)
    refine r_aload_n 1 dX13_ended_39 rfl ?_
    refine q_getR (e9 := (1, 0)) dX13_ended_40 fd_X13_98 t0 rfl h (fun r8 tr8 h => ?_)
    refine r_bipush (v := 102) dX13_ended_43 (by decide) ?_
    refine q_iald dX13_ended_45 tr8 h (fun v9 h => ?_)
    obtain ⟨v10, ev10, h⟩ := bd0_some h
    refine q_cVI [.int v7, .int v9] dX13_ended_46 cv_X13_255 (ci := 12) rfl rfl t0 rfl rfl (Nat.le_of_ble_eq_true rfl) (by omega) (kX13_isWilling (d - 1) (by omega) x0 v7 v9 t0 v10 ev10) ?_
    refine r_if_eq 64 dX13_ended_49 (by decide) h (fun _ h => ?_) (fun _ h => ?_)
    · refine r_iconst (v := -1) dX13_ended_64 (by decide) ?_
      refine r_pick [1, 2] rfl ?_
      exact tX13_ended_b65 hdd σ x0 x1 (-1 : Int32) t0 _ h hQ
    · refine r_aload_n 1 dX13_ended_52 rfl ?_
      refine q_getR (e9 := (1, 0)) dX13_ended_53 fd_X13_98 t0 rfl h (fun r11 tr11 h => ?_)
      refine r_bipush (v := 60) dX13_ended_56 (by decide) ?_
      refine r_iload_n 2 dX13_ended_58 rfl ?_
      refine r_iadd dX13_ended_59 ?_
      refine q_iald dX13_ended_60 tr11 h (fun v12 h => ?_)
      refine r_goto 65 dX13_ended_61 (by decide) ?_
      refine r_pick [1, 2] rfl ?_
      exact tX13_ended_b65 hdd σ x0 x1 v12 t0 _ h hQ
  · refine r_iload_n 0 dX13_ended_25 rfl ?_
    refine r_goto 65 dX13_ended_26 (by decide) ?_
    refine r_pick [1, 2] rfl ?_
    exact tX13_ended_b65 hdd σ x0 x1 v2 t0 _ h hQ
theorem tX13_oneHour_b79 {l : Launch} {G : gg} {Γ : ly} {d : Nat} {Q : Option Value → ly → mm → Prop} (hdd : 5 ≤ d) (σ : mm) (x0 : Nat) (x1 : Int32)  (t0 : tyOK Γ (0, 12) x0)  (r : ((Int32 × mm) ⊕ mm)) (h : fX13_oneHour_b79 Γ.2 σ x0 x1 = some r) (hb : ∀ (x1 : Int32) (σ9 : mm), r = .inl (x1, σ9) → WP l G yX13_oneHour cX13_oneHour 2 (none) d 0 0 Q 0 0 2 [(0, .ref (G.2.1 x0)), (1, .int x1)] [] Γ σ9) (hx0 : ∀ (σ9 : mm), r = .inr σ9 → WP l G yX13_oneHour cX13_oneHour 2 (none) d 0 0 Q 0 0 85 [(0, .ref (G.2.1 x0))] [] Γ σ9) : WP l G yX13_oneHour cX13_oneHour 2 (none) d 0 0 Q 0 0 79 [(0, .ref (G.2.1 x0)), (1, .int x1)] [] Γ σ := by
  unfold fX13_oneHour_b79 at h
  refine q_iinc (v := 1) 1 (fun v1 => [(1, .int v1), (0, .ref (G.2.1 x0))]) dX13_oneHour_79 rfl (by decide) (by decide) (fun _ => rfl) h (fun v1 h => ?_)
  refine r_goto 2 dX13_oneHour_82 (by decide) ?_
  obtain rfl := Option.some.inj h
  refine r_pick [1, 0] rfl ?_
  exact hb _ _ rfl
theorem sX13_oneHour_L2 {l : Launch} {G : gg} {Γ : ly} {d : Nat} {Q : Option Value → ly → mm → Prop} (hdd : 5 ≤ d) (x0 : Nat) (t0 : tyOK Γ (0, 12) x0) {K : mm → Prop} (kx0 : ∀ (σ9 : mm), K σ9 → WP l G yX13_oneHour cX13_oneHour 2 (none) d 0 0 Q 0 0 85 [(0, .ref (G.2.1 x0))] [] Γ σ9) : ∀ (N : Nat) (s : (Int32 × mm)) (b : mm), loopN (fX13_oneHour_L2 Γ.2 x0) N s = some b → K b → WP l G yX13_oneHour cX13_oneHour 2 (none) d 0 0 Q 0 0 2 [(0, .ref (G.2.1 x0)), (1, .int s.1)] [] Γ s.2 := by
  refine r_loop (f := fX13_oneHour_L2 Γ.2 x0) (hlv := fun s => [(0, .ref (G.2.1 x0)), (1, .int s.1)]) (hsg := fun s => s.2) ?_
  rintro ⟨x1, σ⟩ r h hb hx
  have hb : ∀ (x1 : Int32) (σ : mm), r = .inl (x1, σ) → WP l G yX13_oneHour cX13_oneHour 2 (none) d 0 0 Q 0 0 2 [(0, .ref (G.2.1 x0)), (1, .int x1)] [] Γ σ := fun x1 σ e => hb (x1, σ) e
  have hx0 : ∀ (σ9 : mm), r = .inr σ9 → WP l G yX13_oneHour cX13_oneHour 2 (none) d 0 0 Q 0 0 85 [(0, .ref (G.2.1 x0))] [] Γ σ9 := fun σ9 e => kx0 σ9 (hx _ e)
  unfold fX13_oneHour_L2 at h
  have h := un2_some h
  show WP l G yX13_oneHour cX13_oneHour 2 (none) d 0 0 Q 0 0 2 [(0, .ref (G.2.1 x0)), (1, .int x1)] [] Γ σ
  refine r_iload_n 1 dX13_oneHour_2 rfl ?_
  refine r_aload_n 0 dX13_oneHour_3 rfl ?_
  refine q_getR (e9 := (1, 0)) dX13_oneHour_4 fd_X13_98 t0 rfl h (fun r1 tr1 h => ?_)
  refine r_iconst (v := 1) dX13_oneHour_7 (by decide) ?_
  refine q_iald dX13_oneHour_8 tr1 h (fun v2 h => ?_)
  refine r_icmp_ge 85 dX13_oneHour_9 (by decide) h (fun _ h => ?_) (fun _ h => ?_)
  · obtain rfl := Option.some.inj h
    refine r_pick [0] rfl ?_
    exact hx0 _ rfl
  · refine r_aload_n 0 dX13_oneHour_12 rfl ?_
    refine r_iload_n 1 dX13_oneHour_13 rfl ?_
    obtain ⟨v3, ev3, h⟩ := bd0_some h
    refine q_cVI [.int x1] dX13_oneHour_14 cv_X13_261 (ci := 12) rfl rfl t0 rfl rfl (Nat.le_of_ble_eq_true rfl) (by omega) (kX13_isLapsed (d - 1) (by omega) x0 x1 t0 v3 ev3) ?_
    refine r_if_eq 23 dX13_oneHour_17 (by decide) h (fun _ h => ?_) (fun _ h => ?_)
    · refine r_aload_n 0 dX13_oneHour_23 rfl ?_
      refine q_getR (e9 := (1, 0)) dX13_oneHour_24 fd_X13_98 t0 rfl h (fun r4 tr4 h => ?_)
      refine r_bipush (v := 125) dX13_oneHour_27 (by decide) ?_
      refine r_iload_n 1 dX13_oneHour_29 rfl ?_
      refine r_iadd dX13_oneHour_30 ?_
      refine q_iald dX13_oneHour_31 tr4 h (fun v5 h => ?_)
      refine r_if_ne 43 dX13_oneHour_32 (by decide) h (fun _ h => ?_) (fun _ h => ?_)
      · refine r_aload_n 0 dX13_oneHour_43 rfl ?_
        refine q_getR (e9 := (1, 0)) dX13_oneHour_44 fd_X13_98 t0 rfl h (fun r6 tr6 h => ?_)
        refine r_bipush (v := 125) dX13_oneHour_47 (by decide) ?_
        refine r_iload_n 1 dX13_oneHour_49 rfl ?_
        refine r_iadd dX13_oneHour_50 ?_
        refine r_dup2 dX13_oneHour_51 rfl rfl ?_
        refine q_iald dX13_oneHour_52 tr6 h (fun v7 h => ?_)
        refine r_aload_n 0 dX13_oneHour_53 rfl ?_
        refine q_getR (e9 := (1, 0)) dX13_oneHour_54 fd_X13_98 t0 rfl h (fun r8 tr8 h => ?_)
        refine r_bipush (v := 125) dX13_oneHour_57 (by decide) ?_
        refine r_iload_n 1 dX13_oneHour_59 rfl ?_
        refine r_iadd dX13_oneHour_60 ?_
        refine q_iald dX13_oneHour_61 tr8 h (fun v9 h => ?_)
        refine r_aload_n 0 dX13_oneHour_62 rfl ?_
        refine r_iload_n 1 dX13_oneHour_63 rfl ?_
        refine r_aload_n 0 dX13_oneHour_64 rfl ?_
        refine q_getR (e9 := (1, 0)) dX13_oneHour_65 fd_X13_98 t0 rfl h (fun r10 tr10 h => ?_)
        refine r_bipush (v := 102) dX13_oneHour_68 (by decide) ?_
        refine q_iald dX13_oneHour_70 tr10 h (fun v11 h => ?_)
        obtain ⟨v12, ev12, h⟩ := bd0_some h
        refine q_cVI [.int x1, .int v11] dX13_oneHour_71 cv_X13_264 (ci := 12) rfl rfl t0 rfl rfl (Nat.le_of_ble_eq_true rfl) (by omega) (kX13_runs (d - 1) (by omega) x0 x1 v11 t0 v12 ev12) ?_
        obtain ⟨v13, ev13, h⟩ := bd0_some h
        refine q_cSI [.int v9, .int v12] dX13_oneHour_74 cs_X13_227 rfl rfl (Nat.le_of_ble_eq_true rfl) (by omega) (kX13_least (d - 1) (by omega) v9 v12  v13 ev13) ?_
        refine r_isub dX13_oneHour_77 ?_
        refine q_iast dX13_oneHour_78 tr6 h (fun τ14 h => ?_)
        exact tX13_oneHour_b79 hdd τ14 x0 x1 t0 _ h hb hx0
      · refine r_aload_n 0 dX13_oneHour_35 rfl ?_
        refine r_iload_n 1 dX13_oneHour_36 rfl ?_
        obtain ⟨τ15, eτ15, h⟩ := bd0_some h
        refine q_cVV [.int x1] dX13_oneHour_37 cv_X13_303 (ci := 12) rfl rfl t0 rfl rfl (Nat.le_of_ble_eq_true rfl) (by omega) (kX13_ended (d - 1) (by omega) x0 x1 t0 τ15 eτ15) ?_
        refine r_goto 79 dX13_oneHour_40 (by decide) ?_
        exact tX13_oneHour_b79 hdd τ15 x0 x1 t0 _ h hb hx0
    · refine r_goto 79 dX13_oneHour_20 (by decide) ?_
      exact tX13_oneHour_b79 hdd σ x0 x1 t0 _ h hb hx0
theorem tX13_oneHour_b149 {l : Launch} {G : gg} {Γ : ly} {d : Nat} {Q : Option Value → ly → mm → Prop} (hdd : 5 ≤ d) (σ : mm) (x0 : Nat)  (t0 : tyOK Γ (0, 12) x0)  (r : mm) (h : fX13_oneHour_b149 Γ.2 σ x0 = some r) (hQ : Q none Γ r) : WP l G yX13_oneHour cX13_oneHour 2 (none) d 0 0 Q 0 0 149 [(0, .ref (G.2.1 x0))] [] Γ σ := by
  unfold fX13_oneHour_b149 at h
  refine r_aload_n 0 dX13_oneHour_149 rfl ?_
  refine q_getR (e9 := (1, 0)) dX13_oneHour_150 fd_X13_98 t0 rfl h (fun r1 tr1 h => ?_)
  refine r_bipush (v := 102) dX13_oneHour_153 (by decide) ?_
  refine r_dup2 dX13_oneHour_155 rfl rfl ?_
  refine q_iald dX13_oneHour_156 tr1 h (fun v2 h => ?_)
  refine r_iconst (v := 1) dX13_oneHour_157 (by decide) ?_
  refine r_iadd dX13_oneHour_158 ?_
  refine q_iast dX13_oneHour_159 tr1 h (fun τ3 h => ?_)
  obtain rfl := Option.some.inj h
  exact r_return dX13_oneHour_160 rfl hQ (Nat.le_refl _) (Nat.le_refl _)
theorem sX13_oneHour_L110 {l : Launch} {G : gg} {Γ : ly} {d : Nat} {Q : Option Value → ly → mm → Prop} (hdd : 5 ≤ d) (x0 : Nat) (t0 : tyOK Γ (0, 12) x0) {K : mm → Prop} (kx0 : ∀ (σ9 : mm), K σ9 → WP l G yX13_oneHour cX13_oneHour 2 (none) d 0 0 Q 0 0 149 [(0, .ref (G.2.1 x0))] [] Γ σ9) : ∀ (N : Nat) (s : (Int32 × mm)) (b : mm), loopN (fX13_oneHour_L110 Γ.2 x0) N s = some b → K b → WP l G yX13_oneHour cX13_oneHour 2 (none) d 0 0 Q 0 0 110 [(0, .ref (G.2.1 x0)), (1, .int s.1)] [] Γ s.2 := by
  refine r_loop (f := fX13_oneHour_L110 Γ.2 x0) (hlv := fun s => [(0, .ref (G.2.1 x0)), (1, .int s.1)]) (hsg := fun s => s.2) ?_
  rintro ⟨x1, σ⟩ r h hb hx
  have hb : ∀ (x1 : Int32) (σ : mm), r = .inl (x1, σ) → WP l G yX13_oneHour cX13_oneHour 2 (none) d 0 0 Q 0 0 110 [(0, .ref (G.2.1 x0)), (1, .int x1)] [] Γ σ := fun x1 σ e => hb (x1, σ) e
  have hx0 : ∀ (σ9 : mm), r = .inr σ9 → WP l G yX13_oneHour cX13_oneHour 2 (none) d 0 0 Q 0 0 149 [(0, .ref (G.2.1 x0))] [] Γ σ9 := fun σ9 e => kx0 σ9 (hx _ e)
  unfold fX13_oneHour_L110 at h
  have h := un2_some h
  show WP l G yX13_oneHour cX13_oneHour 2 (none) d 0 0 Q 0 0 110 [(0, .ref (G.2.1 x0)), (1, .int x1)] [] Γ σ
  refine r_iload_n 1 dX13_oneHour_110 rfl ?_
  refine r_aload_n 0 dX13_oneHour_111 rfl ?_
  refine q_getR (e9 := (1, 0)) dX13_oneHour_112 fd_X13_98 t0 rfl h (fun r1 tr1 h => ?_)
  refine r_iconst (v := 0) dX13_oneHour_115 (by decide) ?_
  refine q_iald dX13_oneHour_116 tr1 h (fun v2 h => ?_)
  refine r_icmp_ge 149 dX13_oneHour_117 (by decide) h (fun _ h => ?_) (fun _ h => ?_)
  · obtain rfl := Option.some.inj h
    refine r_pick [0] rfl ?_
    exact hx0 _ rfl
  · refine r_aload_n 0 dX13_oneHour_120 rfl ?_
    refine q_getR (e9 := (1, 0)) dX13_oneHour_121 fd_X13_98 t0 rfl h (fun r3 tr3 h => ?_)
    refine r_bipush (v := 105) dX13_oneHour_124 (by decide) ?_
    refine r_iload_n 1 dX13_oneHour_126 rfl ?_
    refine r_iadd dX13_oneHour_127 ?_
    refine r_aload_n 0 dX13_oneHour_128 rfl ?_
    refine r_iload_n 1 dX13_oneHour_129 rfl ?_
    refine r_aload_n 0 dX13_oneHour_130 rfl ?_
    refine q_getR (e9 := (1, 0)) dX13_oneHour_131 fd_X13_98 t0 rfl h (fun r4 tr4 h => ?_)
    refine r_bipush (v := 105) dX13_oneHour_134 (by decide) ?_
    refine r_iload_n 1 dX13_oneHour_136 rfl ?_
    refine r_iadd dX13_oneHour_137 ?_
    refine q_iald dX13_oneHour_138 tr4 h (fun v5 h => ?_)
    obtain ⟨v6, ev6, h⟩ := bd0_some h
    refine q_cVI [.int x1, .int v5] dX13_oneHour_139 cv_X13_231 (ci := 12) rfl rfl t0 rfl rfl (Nat.le_of_ble_eq_true rfl) (by omega) (kX13_fonder (d - 1) (by omega) x0 x1 v5 t0 v6 ev6) ?_
    refine q_iast dX13_oneHour_142 tr3 h (fun τ7 h => ?_)
    refine q_iinc (v := 1) 1 (fun v8 => [(1, .int v8), (0, .ref (G.2.1 x0))]) dX13_oneHour_143 rfl (by decide) (by decide) (fun _ => rfl) h (fun v8 h => ?_)
    refine r_goto 110 dX13_oneHour_146 (by decide) ?_
    obtain rfl := Option.some.inj h
    refine r_pick [1, 0] rfl ?_
    exact hb _ _ rfl
theorem kX13_oneHour {l : Launch} {G : gg} {Γ : ly} {σ : mm} (d : Nat) (hdd : 5 ≤ d) (x0 : Nat) (t0 : tyOK Γ (0, 12) x0) (r : mm) (h : fX13_oneHour Γ.2 σ x0 = some r) : CT l G yX13_oneHour cX13_oneHour 2 (none) d 0 0 [.ref (G.2.1 x0)] Γ σ (PP none Γ r) := by
  refine CT.ofWP (by decide) (Nat.le_of_ble_eq_true rfl) ?_
  have hQ : PP none Γ r none Γ r := PP.self
  generalize PP none Γ r = Q at hQ ⊢
  show WP l G yX13_oneHour cX13_oneHour 2 (none) d 0 0 Q 0 0 0 [(0, .ref (G.2.1 x0))] [] Γ σ
  unfold fX13_oneHour at h
  refine r_iconst (v := 0) dX13_oneHour_0 (by decide) ?_
  refine r_istore_n (lv' := [(1, .int (0 : Int32)), (0, .ref (G.2.1 x0))]) dX13_oneHour_1 (by decide) rfl ?_
  obtain ⟨b1, eb1, h⟩ := bd0_some h
  refine r_pick [1, 0] rfl ?_
  refine sX13_oneHour_L2 hdd x0 t0 (K := fun b => b = b1) ?_ 1000 ((0 : Int32), σ) b1 eb1 rfl
  rintro τ2 rfl
  refine r_aload_n 0 dX13_oneHour_85 rfl ?_
  refine q_getR (e9 := (1, 0)) dX13_oneHour_86 fd_X13_98 t0 rfl h (fun r3 tr3 h => ?_)
  refine r_bipush (v := 103) dX13_oneHour_89 (by decide) ?_
  refine r_iconst (v := 0) dX13_oneHour_91 (by decide) ?_
  refine q_iast dX13_oneHour_92 tr3 h (fun τ4 h => ?_)
  refine r_aload_n 0 dX13_oneHour_93 rfl ?_
  refine q_getR (e9 := (1, 0)) dX13_oneHour_94 fd_X13_98 t0 rfl h (fun r5 tr5 h => ?_)
  refine r_bipush (v := 102) dX13_oneHour_97 (by decide) ?_
  refine q_iald dX13_oneHour_99 tr5 h (fun v6 h => ?_)
  refine r_bipush (v := 24) dX13_oneHour_100 (by decide) ?_
  refine r_irem dX13_oneHour_102 (by decide) ?_
  refine r_bipush (v := 23) dX13_oneHour_103 (by decide) ?_
  refine r_icmp_ne 149 dX13_oneHour_105 (by decide) h (fun _ h => ?_) (fun _ h => ?_)
  · exact tX13_oneHour_b149 hdd τ4 x0 t0 _ h hQ
  · refine r_iconst (v := 0) dX13_oneHour_108 (by decide) ?_
    refine r_istore_n (lv' := [(1, .int (0 : Int32)), (0, .ref (G.2.1 x0))]) dX13_oneHour_109 (by decide) rfl ?_
    obtain ⟨b7, eb7, h⟩ := bd0_some h
    refine r_pick [1, 0] rfl ?_
    refine sX13_oneHour_L110 hdd x0 t0 (K := fun b => b = b7) ?_ 1000 ((0 : Int32), τ4) b7 eb7 rfl
    rintro τ8 rfl
    exact tX13_oneHour_b149 hdd τ8 x0 t0 _ h hQ
theorem sX13_passHours_L18 {l : Launch} {G : gg} {Γ : ly} {d : Nat} {Q : Option Value → ly → mm → Prop} (hdd : 6 ≤ d) (x0 : Nat) (x2 : Int32) (t0 : tyOK Γ (0, 12) x0) {K : mm → Prop} (kx0 : ∀ (σ9 : mm), K σ9 → WP l G yX13_passHours cX13_passHours 4 (some .int) d 0 0 Q 0 0 33 [(2, .int x2)] [] Γ σ9) : ∀ (N : Nat) (s : (Int32 × mm)) (b : mm), loopN (fX13_passHours_L18 Γ.2 x0 x2) N s = some b → K b → WP l G yX13_passHours cX13_passHours 4 (some .int) d 0 0 Q 0 0 18 [(0, .ref (G.2.1 x0)), (2, .int x2), (3, .int s.1)] [] Γ s.2 := by
  refine r_loop (f := fX13_passHours_L18 Γ.2 x0 x2) (hlv := fun s => [(0, .ref (G.2.1 x0)), (2, .int x2), (3, .int s.1)]) (hsg := fun s => s.2) ?_
  rintro ⟨x3, σ⟩ r h hb hx
  have hb : ∀ (x3 : Int32) (σ : mm), r = .inl (x3, σ) → WP l G yX13_passHours cX13_passHours 4 (some .int) d 0 0 Q 0 0 18 [(0, .ref (G.2.1 x0)), (2, .int x2), (3, .int x3)] [] Γ σ := fun x3 σ e => hb (x3, σ) e
  have hx0 : ∀ (σ9 : mm), r = .inr σ9 → WP l G yX13_passHours cX13_passHours 4 (some .int) d 0 0 Q 0 0 33 [(2, .int x2)] [] Γ σ9 := fun σ9 e => kx0 σ9 (hx _ e)
  unfold fX13_passHours_L18 at h
  have h := un2_some h
  show WP l G yX13_passHours cX13_passHours 4 (some .int) d 0 0 Q 0 0 18 [(0, .ref (G.2.1 x0)), (2, .int x2), (3, .int x3)] [] Γ σ
  refine r_iload_n 2 dX13_passHours_18 rfl ?_
  refine r_iload_n 1 dX13_passHours_19 rfl ?_
  refine r_icmp_ge 33 dX13_passHours_20 (by decide) h (fun _ h => ?_) (fun _ h => ?_)
  · obtain rfl := Option.some.inj h
    refine r_pick [1] rfl ?_
    exact hx0 _ rfl
  · refine r_aload_n 0 dX13_passHours_23 rfl ?_
    obtain ⟨τ1, eτ1, h⟩ := bd0_some h
    refine q_cVV [] dX13_passHours_24 cv_X13_306 (ci := 12) rfl rfl t0 rfl rfl (Nat.le_of_ble_eq_true rfl) (by omega) (kX13_oneHour (d - 1) (by omega) x0 t0 τ1 eτ1) ?_
    refine q_iinc (v := 1) 2 (fun v2 => [(3, .int v2), (0, .ref (G.2.1 x0)), (2, .int x2)]) dX13_passHours_27 rfl (by decide) (by decide) (fun _ => rfl) h (fun v2 h => ?_)
    refine r_goto 18 dX13_passHours_30 (by decide) ?_
    obtain rfl := Option.some.inj h
    refine r_pick [1, 2, 0] rfl ?_
    exact hb _ _ rfl
theorem kX13_passHours {l : Launch} {G : gg} {Γ : ly} {σ : mm} (d : Nat) (hdd : 6 ≤ d) (x0 : Nat) (x1 : Int32) (t0 : tyOK Γ (0, 12) x0) (r : (Int32 × mm)) (h : fX13_passHours Γ.2 σ x0 x1 = some r) : CT l G yX13_passHours cX13_passHours 4 (some .int) d 0 0 [.ref (G.2.1 x0), .int x1] Γ σ (PP (some (.int r.1)) Γ r.2) := by
  refine CT.ofWP (by decide) (Nat.le_of_ble_eq_true rfl) ?_
  have hQ : PP (some (.int r.1)) Γ r.2 (some (.int r.1)) Γ r.2 := PP.self
  generalize PP (some (.int r.1)) Γ r.2 = Q at hQ ⊢
  show WP l G yX13_passHours cX13_passHours 4 (some .int) d 0 0 Q 0 0 0 [(0, .ref (G.2.1 x0)), (1, .int x1)] [] Γ σ
  unfold fX13_passHours at h
  refine r_iload_n 1 dX13_passHours_0 rfl ?_
  refine r_sipush (v := 600) dX13_passHours_1 (by decide) ?_
  refine r_aload_n 0 dX13_passHours_4 rfl ?_
  refine q_getR (e9 := (1, 0)) dX13_passHours_5 fd_X13_98 t0 rfl h (fun r1 tr1 h => ?_)
  refine r_bipush (v := 102) dX13_passHours_8 (by decide) ?_
  refine q_iald dX13_passHours_10 tr1 h (fun v2 h => ?_)
  refine r_isub dX13_passHours_11 ?_
  obtain ⟨v3, ev3, h⟩ := bd0_some h
  refine q_cSI [.int x1, .int ((600 : Int32) - v2)] dX13_passHours_12 cs_X13_227 rfl rfl (Nat.le_of_ble_eq_true rfl) (by omega) (kX13_least (d - 1) (by omega) x1 ((600 : Int32) - v2)  v3 ev3) ?_
  refine r_istore_n (lv' := [(2, .int v3), (0, .ref (G.2.1 x0)), (1, .int x1)]) dX13_passHours_15 (by decide) rfl ?_
  refine r_iconst (v := 0) dX13_passHours_16 (by decide) ?_
  refine r_istore_n (lv' := [(3, .int (0 : Int32)), (2, .int v3), (0, .ref (G.2.1 x0)), (1, .int x1)]) dX13_passHours_17 (by decide) rfl ?_
  obtain ⟨b4, eb4, h⟩ := bd0_some h
  refine r_pick [2, 1, 0] rfl ?_
  refine sX13_passHours_L18 hdd x0 v3 t0 (K := fun b => b = b4) ?_ 1000 ((0 : Int32), σ) b4 eb4 rfl
  rintro τ5 rfl
  refine r_iload_n 0 dX13_passHours_33 rfl ?_
  obtain rfl := Option.some.inj h
  exact r_ireturn dX13_passHours_34 rfl hQ (Nat.le_refl _) (Nat.le_refl _)
theorem kX13_hours {l : Launch} {G : gg} {Γ : ly} {σ : mm} (d : Nat) (hdd : 7 ≤ d) (x0 : Nat) (x1 : Int32) (t0 : tyOK Γ (0, 12) x0) (r : (Int32 × mm)) (h : fX13_hours Γ.2 σ x0 x1 = some r) : CT l G yX13_hours cX13_hours 2 (some .int) d 0 0 [.ref (G.2.1 x0), .int x1] Γ σ (PP (some (.int r.1)) Γ r.2) := by
  refine CT.ofWP (by decide) (Nat.le_of_ble_eq_true rfl) ?_
  have hQ : PP (some (.int r.1)) Γ r.2 (some (.int r.1)) Γ r.2 := PP.self
  generalize PP (some (.int r.1)) Γ r.2 = Q at hQ ⊢
  show WP l G yX13_hours cX13_hours 2 (some .int) d 0 0 Q 0 0 0 [(0, .ref (G.2.1 x0)), (1, .int x1)] [] Γ σ
  unfold fX13_hours at h
  refine r_aload_n 0 dX13_hours_0 rfl ?_
  refine r_iconst (v := 0) dX13_hours_1 (by decide) ?_
  refine q_putI dX13_hours_2 fd_X13_1 t0 h (fun τ1 h => ?_)
  refine r_iload_n 1 dX13_hours_5 rfl ?_
  refine r_iconst (v := 1) dX13_hours_6 (by decide) ?_
  refine r_bipush (v := 60) dX13_hours_7 (by decide) ?_
  obtain ⟨v2, ev2, h⟩ := bd0_some h
  refine q_cSI [.int x1, .int (1 : Int32), .int (60 : Int32)] dX13_hours_9 cs_X13_75 rfl rfl (Nat.le_of_ble_eq_true rfl) (by omega) (kX13_isIn (d - 1) (by omega) x1 (1 : Int32) (60 : Int32)  v2 ev2) ?_
  refine r_if_ne 17 dX13_hours_12 (by decide) h (fun _ h => ?_) (fun _ h => ?_)
  · refine r_aload_n 0 dX13_hours_17 rfl ?_
    refine q_getR (e9 := (1, 0)) dX13_hours_18 fd_X13_98 t0 rfl h (fun r3 tr3 h => ?_)
    refine r_bipush (v := 102) dX13_hours_21 (by decide) ?_
    refine q_iald dX13_hours_23 tr3 h (fun v4 h => ?_)
    refine r_sipush (v := 600) dX13_hours_24 (by decide) ?_
    refine r_icmp_ne 32 dX13_hours_27 (by decide) h (fun _ h => ?_) (fun _ h => ?_)
    · refine r_aload_n 0 dX13_hours_32 rfl ?_
      obtain ⟨τ5, eτ5, h⟩ := bd0_some h
      refine q_cVV [] dX13_hours_33 cv_X13_293 (ci := 12) rfl rfl t0 rfl rfl (Nat.le_of_ble_eq_true rfl) (by omega) (kX13_snap (d - 1) (by omega) x0 t0 τ5 eτ5) ?_
      refine r_aload_n 0 dX13_hours_36 rfl ?_
      refine r_iload_n 1 dX13_hours_37 rfl ?_
      obtain ⟨v6, τ7, ev6, h⟩ := bd2_some h
      refine q_cVI [.int x1] dX13_hours_38 cv_X13_309 (ci := 12) rfl rfl t0 rfl rfl (Nat.le_of_ble_eq_true rfl) (by omega) (kX13_passHours (d - 1) (by omega) x0 x1 t0 (v6, τ7) ev6) ?_
      obtain rfl := Option.some.inj h
      exact r_ireturn dX13_hours_41 rfl hQ (Nat.le_refl _) (Nat.le_refl _)
    · refine r_iconst (v := 0) dX13_hours_30 (by decide) ?_
      obtain rfl := Option.some.inj h
      exact r_ireturn dX13_hours_31 rfl hQ (Nat.le_refl _) (Nat.le_refl _)
  · refine r_iconst (v := -1) dX13_hours_15 (by decide) ?_
    obtain rfl := Option.some.inj h
    exact r_ireturn dX13_hours_16 rfl hQ (Nat.le_refl _) (Nat.le_refl _)
theorem sX13_layAside_L2 {l : Launch} {G : gg} {Γ : ly} {d : Nat} {Q : Option Value → ly → mm → Prop} (hdd : 0 ≤ d) (x0 : Nat) (t0 : tyOK Γ (0, 12) x0) {K : mm → Prop} (kx0 : ∀ (σ9 : mm), K σ9 → WP l G yX13_layAside cX13_layAside 2 (none) d 0 0 Q 0 0 29 [] [] Γ σ9) : ∀ (N : Nat) (s : (Int32 × mm)) (b : mm), loopN (fX13_layAside_L2 Γ.2 x0) N s = some b → K b → WP l G yX13_layAside cX13_layAside 2 (none) d 0 0 Q 0 0 2 [(0, .ref (G.2.1 x0)), (1, .int s.1)] [] Γ s.2 := by
  refine r_loop (f := fX13_layAside_L2 Γ.2 x0) (hlv := fun s => [(0, .ref (G.2.1 x0)), (1, .int s.1)]) (hsg := fun s => s.2) ?_
  rintro ⟨x1, σ⟩ r h hb hx
  have hb : ∀ (x1 : Int32) (σ : mm), r = .inl (x1, σ) → WP l G yX13_layAside cX13_layAside 2 (none) d 0 0 Q 0 0 2 [(0, .ref (G.2.1 x0)), (1, .int x1)] [] Γ σ := fun x1 σ e => hb (x1, σ) e
  have hx0 : ∀ (σ9 : mm), r = .inr σ9 → WP l G yX13_layAside cX13_layAside 2 (none) d 0 0 Q 0 0 29 [] [] Γ σ9 := fun σ9 e => kx0 σ9 (hx _ e)
  unfold fX13_layAside_L2 at h
  have h := un2_some h
  show WP l G yX13_layAside cX13_layAside 2 (none) d 0 0 Q 0 0 2 [(0, .ref (G.2.1 x0)), (1, .int x1)] [] Γ σ
  refine r_iload_n 1 dX13_layAside_2 rfl ?_
  refine r_bipush (v := 39) dX13_layAside_3 (by decide) ?_
  refine r_icmp_ge 29 dX13_layAside_5 (by decide) h (fun _ h => ?_) (fun _ h => ?_)
  · obtain rfl := Option.some.inj h
    refine r_pick [] rfl ?_
    exact hx0 _ rfl
  · refine r_aload_n 0 dX13_layAside_8 rfl ?_
    refine q_getR (e9 := (1, 0)) dX13_layAside_9 fd_X13_110 t0 rfl h (fun r1 tr1 h => ?_)
    refine r_iload_n 1 dX13_layAside_12 rfl ?_
    refine r_aload_n 0 dX13_layAside_13 rfl ?_
    refine q_getR (e9 := (1, 0)) dX13_layAside_14 fd_X13_98 t0 rfl h (fun r2 tr2 h => ?_)
    refine r_bipush (v := 102) dX13_layAside_17 (by decide) ?_
    refine r_iload_n 1 dX13_layAside_19 rfl ?_
    refine r_iadd dX13_layAside_20 ?_
    refine q_iald dX13_layAside_21 tr2 h (fun v3 h => ?_)
    refine q_iast dX13_layAside_22 tr1 h (fun τ4 h => ?_)
    refine q_iinc (v := 1) 1 (fun v5 => [(1, .int v5), (0, .ref (G.2.1 x0))]) dX13_layAside_23 rfl (by decide) (by decide) (fun _ => rfl) h (fun v5 h => ?_)
    refine r_goto 2 dX13_layAside_26 (by decide) ?_
    obtain rfl := Option.some.inj h
    refine r_pick [1, 0] rfl ?_
    exact hb _ _ rfl
theorem kX13_layAside {l : Launch} {G : gg} {Γ : ly} {σ : mm} (d : Nat) (hdd : 0 ≤ d) (x0 : Nat) (t0 : tyOK Γ (0, 12) x0) (r : mm) (h : fX13_layAside Γ.2 σ x0 = some r) : CT l G yX13_layAside cX13_layAside 2 (none) d 0 0 [.ref (G.2.1 x0)] Γ σ (PP none Γ r) := by
  refine CT.ofWP (by decide) (Nat.le_of_ble_eq_true rfl) ?_
  have hQ : PP none Γ r none Γ r := PP.self
  generalize PP none Γ r = Q at hQ ⊢
  show WP l G yX13_layAside cX13_layAside 2 (none) d 0 0 Q 0 0 0 [(0, .ref (G.2.1 x0))] [] Γ σ
  unfold fX13_layAside at h
  refine r_iconst (v := 0) dX13_layAside_0 (by decide) ?_
  refine r_istore_n (lv' := [(1, .int (0 : Int32)), (0, .ref (G.2.1 x0))]) dX13_layAside_1 (by decide) rfl ?_
  obtain ⟨b1, eb1, h⟩ := bd0_some h
  refine r_pick [1, 0] rfl ?_
  refine sX13_layAside_L2 hdd x0 t0 (K := fun b => b = b1) ?_ 1000 ((0 : Int32), σ) b1 eb1 rfl
  rintro τ2 rfl
  obtain rfl := Option.some.inj h
  exact r_return dX13_layAside_29 rfl hQ (Nat.le_refl _) (Nat.le_refl _)
theorem sX13_takeBack_L2 {l : Launch} {G : gg} {Γ : ly} {d : Nat} {Q : Option Value → ly → mm → Prop} (hdd : 0 ≤ d) (x0 : Nat) (t0 : tyOK Γ (0, 12) x0) {K : mm → Prop} (kx0 : ∀ (σ9 : mm), K σ9 → WP l G yX13_takeBack cX13_takeBack 2 (none) d 0 0 Q 0 0 29 [] [] Γ σ9) : ∀ (N : Nat) (s : (Int32 × mm)) (b : mm), loopN (fX13_takeBack_L2 Γ.2 x0) N s = some b → K b → WP l G yX13_takeBack cX13_takeBack 2 (none) d 0 0 Q 0 0 2 [(0, .ref (G.2.1 x0)), (1, .int s.1)] [] Γ s.2 := by
  refine r_loop (f := fX13_takeBack_L2 Γ.2 x0) (hlv := fun s => [(0, .ref (G.2.1 x0)), (1, .int s.1)]) (hsg := fun s => s.2) ?_
  rintro ⟨x1, σ⟩ r h hb hx
  have hb : ∀ (x1 : Int32) (σ : mm), r = .inl (x1, σ) → WP l G yX13_takeBack cX13_takeBack 2 (none) d 0 0 Q 0 0 2 [(0, .ref (G.2.1 x0)), (1, .int x1)] [] Γ σ := fun x1 σ e => hb (x1, σ) e
  have hx0 : ∀ (σ9 : mm), r = .inr σ9 → WP l G yX13_takeBack cX13_takeBack 2 (none) d 0 0 Q 0 0 29 [] [] Γ σ9 := fun σ9 e => kx0 σ9 (hx _ e)
  unfold fX13_takeBack_L2 at h
  have h := un2_some h
  show WP l G yX13_takeBack cX13_takeBack 2 (none) d 0 0 Q 0 0 2 [(0, .ref (G.2.1 x0)), (1, .int x1)] [] Γ σ
  refine r_iload_n 1 dX13_takeBack_2 rfl ?_
  refine r_bipush (v := 39) dX13_takeBack_3 (by decide) ?_
  refine r_icmp_ge 29 dX13_takeBack_5 (by decide) h (fun _ h => ?_) (fun _ h => ?_)
  · obtain rfl := Option.some.inj h
    refine r_pick [] rfl ?_
    exact hx0 _ rfl
  · refine r_aload_n 0 dX13_takeBack_8 rfl ?_
    refine q_getR (e9 := (1, 0)) dX13_takeBack_9 fd_X13_98 t0 rfl h (fun r1 tr1 h => ?_)
    refine r_bipush (v := 102) dX13_takeBack_12 (by decide) ?_
    refine r_iload_n 1 dX13_takeBack_14 rfl ?_
    refine r_iadd dX13_takeBack_15 ?_
    refine r_aload_n 0 dX13_takeBack_16 rfl ?_
    refine q_getR (e9 := (1, 0)) dX13_takeBack_17 fd_X13_110 t0 rfl h (fun r2 tr2 h => ?_)
    refine r_iload_n 1 dX13_takeBack_20 rfl ?_
    refine q_iald dX13_takeBack_21 tr2 h (fun v3 h => ?_)
    refine q_iast dX13_takeBack_22 tr1 h (fun τ4 h => ?_)
    refine q_iinc (v := 1) 1 (fun v5 => [(1, .int v5), (0, .ref (G.2.1 x0))]) dX13_takeBack_23 rfl (by decide) (by decide) (fun _ => rfl) h (fun v5 h => ?_)
    refine r_goto 2 dX13_takeBack_26 (by decide) ?_
    obtain rfl := Option.some.inj h
    refine r_pick [1, 0] rfl ?_
    exact hb _ _ rfl
theorem kX13_takeBack {l : Launch} {G : gg} {Γ : ly} {σ : mm} (d : Nat) (hdd : 0 ≤ d) (x0 : Nat) (t0 : tyOK Γ (0, 12) x0) (r : mm) (h : fX13_takeBack Γ.2 σ x0 = some r) : CT l G yX13_takeBack cX13_takeBack 2 (none) d 0 0 [.ref (G.2.1 x0)] Γ σ (PP none Γ r) := by
  refine CT.ofWP (by decide) (Nat.le_of_ble_eq_true rfl) ?_
  have hQ : PP none Γ r none Γ r := PP.self
  generalize PP none Γ r = Q at hQ ⊢
  show WP l G yX13_takeBack cX13_takeBack 2 (none) d 0 0 Q 0 0 0 [(0, .ref (G.2.1 x0))] [] Γ σ
  unfold fX13_takeBack at h
  refine r_iconst (v := 0) dX13_takeBack_0 (by decide) ?_
  refine r_istore_n (lv' := [(1, .int (0 : Int32)), (0, .ref (G.2.1 x0))]) dX13_takeBack_1 (by decide) rfl ?_
  obtain ⟨b1, eb1, h⟩ := bd0_some h
  refine r_pick [1, 0] rfl ?_
  refine sX13_takeBack_L2 hdd x0 t0 (K := fun b => b = b1) ?_ 1000 ((0 : Int32), σ) b1 eb1 rfl
  rintro τ2 rfl
  obtain rfl := Option.some.inj h
  exact r_return dX13_takeBack_29 rfl hQ (Nat.le_refl _) (Nat.le_refl _)
theorem sX13_endsBy_L11 {l : Launch} {G : gg} {Γ : ly} {d : Nat} {Q : Option Value → ly → mm → Prop} (hdd : 3 ≤ d) (σ : mm) (x0 : Nat) (x1 : Int32) (t0 : tyOK Γ (0, 12) x0) {K : (Int32 ⊕ Unit) → Prop} (kx0 : ∀ (x4 : Int32), K (.inl x4) → WP l G yX13_endsBy cX13_endsBy 5 (some .int) d 0 0 Q 0 0 23 [(4, .int x4)] [] Γ σ) (kx1 : K (.inr ()) → WP l G yX13_endsBy cX13_endsBy 5 (some .int) d 0 0 Q 0 0 46 [] [] Γ σ) : ∀ (N : Nat) (s : (Int32 × Int32)) (b : (Int32 ⊕ Unit)), loopN (fX13_endsBy_L11 Γ.2 σ x0 x1) N s = some b → K b → WP l G yX13_endsBy cX13_endsBy 5 (some .int) d 0 0 Q 0 0 11 [(0, .ref (G.2.1 x0)), (1, .int x1), (3, .int s.1), (4, .int s.2)] [] Γ σ := by
  refine r_loop (f := fX13_endsBy_L11 Γ.2 σ x0 x1) (hlv := fun s => [(0, .ref (G.2.1 x0)), (1, .int x1), (3, .int s.1), (4, .int s.2)]) (hsg := fun s => σ) ?_
  rintro ⟨x3, x4⟩ r h hb hx
  have hb : ∀ (x3 : Int32) (x4 : Int32), r = .inl (x3, x4) → WP l G yX13_endsBy cX13_endsBy 5 (some .int) d 0 0 Q 0 0 11 [(0, .ref (G.2.1 x0)), (1, .int x1), (3, .int x3), (4, .int x4)] [] Γ σ := fun x3 x4 e => hb (x3, x4) e
  have hx0 : ∀ (x4 : Int32), r = .inr (.inl x4) → WP l G yX13_endsBy cX13_endsBy 5 (some .int) d 0 0 Q 0 0 23 [(4, .int x4)] [] Γ σ := fun x4 e => kx0 x4 (hx _ e)
  have hx1 : r = .inr (.inr ()) → WP l G yX13_endsBy cX13_endsBy 5 (some .int) d 0 0 Q 0 0 46 [] [] Γ σ := fun e => kx1  (hx _ e)
  unfold fX13_endsBy_L11 at h
  have h := un2_some h
  show WP l G yX13_endsBy cX13_endsBy 5 (some .int) d 0 0 Q 0 0 11 [(0, .ref (G.2.1 x0)), (1, .int x1), (3, .int x3), (4, .int x4)] [] Γ σ
  refine r_iload 3 dX13_endsBy_11 rfl ?_
  refine r_sipush (v := 600) dX13_endsBy_13 (by decide) ?_
  refine r_icmp_ge 46 dX13_endsBy_16 (by decide) h (fun _ h => ?_) (fun _ h => ?_)
  · obtain rfl := Option.some.inj h
    refine r_pick [] rfl ?_
    exact hx1  rfl
  · refine r_iload_n 2 dX13_endsBy_19 rfl ?_
    refine r_if_ne 26 dX13_endsBy_20 (by decide) h (fun _ h => ?_) (fun _ h => ?_)
    · refine r_iload_n 2 dX13_endsBy_26 rfl ?_
      refine r_iload_n 2 dX13_endsBy_27 rfl ?_
      refine r_aload_n 0 dX13_endsBy_28 rfl ?_
      refine r_iload_n 1 dX13_endsBy_29 rfl ?_
      refine r_iload 3 dX13_endsBy_30 rfl ?_
      obtain ⟨v1, ev1, h⟩ := bd0_some h
      refine q_cVI [.int x1, .int x4] dX13_endsBy_32 cv_X13_264 (ci := 12) rfl rfl t0 rfl rfl (Nat.le_of_ble_eq_true rfl) (by omega) (kX13_runs (d - 1) (by omega) x0 x1 x4 t0 v1 ev1) ?_
      obtain ⟨v2, ev2, h⟩ := bd0_some h
      refine q_cSI [.int x3, .int v1] dX13_endsBy_35 cs_X13_227 rfl rfl (Nat.le_of_ble_eq_true rfl) (by omega) (kX13_least (d - 1) (by omega) x3 v1  v2 ev2) ?_
      refine r_isub dX13_endsBy_38 ?_
      refine q_nmI h (fun v3 h => ?_)
      refine r_istore_n (lv' := [(3, .int v3), (0, .ref (G.2.1 x0)), (1, .int x1), (4, .int x4)]) dX13_endsBy_39 (by decide) rfl ?_
      refine q_iinc (v := 1) 3 (fun v4 => [(4, .int v4), (3, .int v3), (0, .ref (G.2.1 x0)), (1, .int x1)]) dX13_endsBy_40 rfl (by decide) (by decide) (fun _ => rfl) h (fun v4 h => ?_)
      refine r_goto 11 dX13_endsBy_43 (by decide) ?_
      obtain rfl := Option.some.inj h
      refine r_pick [2, 3, 1, 0] rfl ?_
      exact hb _ _ rfl
    · obtain rfl := Option.some.inj h
      refine r_pick [3] rfl ?_
      exact hx0 _ rfl
theorem kX13_endsBy {l : Launch} {G : gg} {Γ : ly} {σ : mm} (d : Nat) (hdd : 3 ≤ d) (x0 : Nat) (x1 : Int32) (x2 : Int32) (t0 : tyOK Γ (0, 12) x0) (r : Int32) (h : fX13_endsBy Γ.2 σ x0 x1 x2 = some r) : CT l G yX13_endsBy cX13_endsBy 5 (some .int) d 0 0 [.ref (G.2.1 x0), .int x1, .int x2] Γ σ (PP (some (.int r)) Γ σ) := by
  refine CT.ofWP (by decide) (Nat.le_of_ble_eq_true rfl) ?_
  have hQ : PP (some (.int r)) Γ σ (some (.int r)) Γ σ := PP.self
  generalize PP (some (.int r)) Γ σ = Q at hQ ⊢
  show WP l G yX13_endsBy cX13_endsBy 5 (some .int) d 0 0 Q 0 0 0 [(0, .ref (G.2.1 x0)), (1, .int x1), (2, .int x2)] [] Γ σ
  unfold fX13_endsBy at h
  refine r_iload_n 2 dX13_endsBy_0 rfl ?_
  refine r_istore_n (lv' := [(3, .int x2), (0, .ref (G.2.1 x0)), (1, .int x1), (2, .int x2)]) dX13_endsBy_1 (by decide) rfl ?_
  refine r_aload_n 1 dX13_endsBy_2 rfl ?_
  refine q_getR (e9 := (1, 0)) dX13_endsBy_3 fd_X13_98 t0 rfl h (fun r1 tr1 h => ?_)
  refine r_bipush (v := 102) dX13_endsBy_6 (by decide) ?_
  refine q_iald dX13_endsBy_8 tr1 h (fun v2 h => ?_)
  refine r_istore (lv' := [(4, .int v2), (3, .int x2), (0, .ref (G.2.1 x0)), (1, .int x1), (2, .int x2)]) dX13_endsBy_9 (by decide) rfl ?_
  obtain ⟨b3, eb3, h⟩ := bd0_some h
  refine r_pick [2, 3, 1, 0] rfl ?_
  refine sX13_endsBy_L11 hdd σ x0 x1 t0 (K := fun b => b = b3) ?_ ?_ 1000 (x2, v2) b3 eb3 rfl
  · rintro v4 rfl
    have h := cs2_0 h
    refine r_iload 0 dX13_endsBy_23 rfl ?_
    obtain rfl := Option.some.inj h
    exact r_ireturn dX13_endsBy_25 rfl hQ (Nat.le_refl _) (Nat.le_refl _)
  · rintro rfl
    have h := cs2_1 h
    refine r_iconst (v := -1) dX13_endsBy_46 (by decide) ?_
    obtain rfl := Option.some.inj h
    exact r_ireturn dX13_endsBy_47 rfl hQ (Nat.le_refl _) (Nat.le_refl _)
theorem tX13_endOf_b34 {l : Launch} {G : gg} {Γ : ly} {d : Nat} {Q : Option Value → ly → mm → Prop} (hdd : 4 ≤ d) (σ : mm)  (s0 : Int32)   (r : Int32) (h : fX13_endOf_b34 Γ.2 σ s0 = some r) (hQ : Q (some (.int r)) Γ σ) : WP l G yX13_endOf cX13_endOf 2 (some .int) d 0 0 Q 0 0 34 [] [.int s0] Γ σ := by
  unfold fX13_endOf_b34 at h
  obtain rfl := Option.some.inj h
  exact r_ireturn dX13_endOf_34 rfl hQ (Nat.le_refl _) (Nat.le_refl _)
theorem tX13_endOf_b33 {l : Launch} {G : gg} {Γ : ly} {d : Nat} {Q : Option Value → ly → mm → Prop} (hdd : 4 ≤ d) (σ : mm)     (r : Int32) (h : fX13_endOf_b33 Γ.2 σ  = some r) (hQ : Q (some (.int r)) Γ σ) : WP l G yX13_endOf cX13_endOf 2 (some .int) d 0 0 Q 0 0 33 [] [] Γ σ := by
  unfold fX13_endOf_b33 at h
  refine r_iconst (v := -1) dX13_endOf_33 (by decide) ?_
  exact tX13_endOf_b34 hdd σ (-1 : Int32)  _ h hQ
theorem kX13_endOf {l : Launch} {G : gg} {Γ : ly} {σ : mm} (d : Nat) (hdd : 4 ≤ d) (x0 : Nat) (x1 : Int32) (t0 : tyOK Γ (0, 12) x0) (r : Int32) (h : fX13_endOf Γ.2 σ x0 x1 = some r) : CT l G yX13_endOf cX13_endOf 2 (some .int) d 0 0 [.ref (G.2.1 x0), .int x1] Γ σ (PP (some (.int r)) Γ σ) := by
  refine CT.ofWP (by decide) (Nat.le_of_ble_eq_true rfl) ?_
  have hQ : PP (some (.int r)) Γ σ (some (.int r)) Γ σ := PP.self
  generalize PP (some (.int r)) Γ σ = Q at hQ ⊢
  show WP l G yX13_endOf cX13_endOf 2 (some .int) d 0 0 Q 0 0 0 [(0, .ref (G.2.1 x0)), (1, .int x1)] [] Γ σ
  unfold fX13_endOf at h
  refine r_aload_n 0 dX13_endOf_0 rfl ?_
  refine r_iload_n 1 dX13_endOf_1 rfl ?_
  obtain ⟨v1, ev1, h⟩ := bd0_some h
  refine q_cVI [.int x1] dX13_endOf_2 cv_X13_258 (ci := 12) rfl rfl t0 rfl rfl (Nat.le_of_ble_eq_true rfl) (by omega) (kX13_isGlass (d - 1) (by omega) x0 x1 t0 v1 ev1) ?_
  refine r_if_eq 33 dX13_endOf_5 (by decide) h (fun _ h => ?_) (fun _ h => ?_)
  · refine r_pick [] rfl ?_
    exact tX13_endOf_b33 hdd σ  _ h hQ
  · refine r_aload_n 0 dX13_endOf_8 rfl ?_
    refine r_iload_n 1 dX13_endOf_9 rfl ?_
    obtain ⟨v2, ev2, h⟩ := bd0_some h
    refine q_cVI [.int x1] dX13_endOf_10 cv_X13_261 (ci := 12) rfl rfl t0 rfl rfl (Nat.le_of_ble_eq_true rfl) (by omega) (kX13_isLapsed (d - 1) (by omega) x0 x1 t0 v2 ev2) ?_
    refine r_if_ne 33 dX13_endOf_13 (by decide) h (fun _ h => ?_) (fun _ h => ?_)
    · refine r_pick [] rfl ?_
      exact tX13_endOf_b33 hdd σ  _ h hQ
    · refine r_aload_n 0 dX13_endOf_16 rfl ?_
      refine r_iload_n 1 dX13_endOf_17 rfl ?_
      refine r_aload_n 0 dX13_endOf_18 rfl ?_
      refine q_getR (e9 := (1, 0)) dX13_endOf_19 fd_X13_98 t0 rfl h (fun r3 tr3 h => ?_)
      refine r_bipush (v := 125) dX13_endOf_22 (by decide) ?_
      refine r_iload_n 1 dX13_endOf_24 rfl ?_
      refine r_iadd dX13_endOf_25 ?_
      refine q_iald dX13_endOf_26 tr3 h (fun v4 h => ?_)
      obtain ⟨v5, ev5, h⟩ := bd0_some h
      refine q_cVI [.int x1, .int v4] dX13_endOf_27 cv_X13_312 (ci := 12) rfl rfl t0 rfl rfl (Nat.le_of_ble_eq_true rfl) (by omega) (kX13_endsBy (d - 1) (by omega) x0 x1 v4 t0 v5 ev5) ?_
      refine r_goto 34 dX13_endOf_30 (by decide) ?_
      refine r_pick [] rfl ?_
      exact tX13_endOf_b34 hdd σ v5  _ h hQ
theorem kX13_ends {l : Launch} {G : gg} {Γ : ly} {σ : mm} (d : Nat) (hdd : 5 ≤ d) (x0 : Nat) (x1 : Int32) (t0 : tyOK Γ (0, 12) x0) (r : (Int32 × mm)) (h : fX13_ends Γ.2 σ x0 x1 = some r) : CT l G yX13_ends cX13_ends 2 (some .int) d 0 0 [.ref (G.2.1 x0), .int x1] Γ σ (PP (some (.int r.1)) Γ r.2) := by
  refine CT.ofWP (by decide) (Nat.le_of_ble_eq_true rfl) ?_
  have hQ : PP (some (.int r.1)) Γ r.2 (some (.int r.1)) Γ r.2 := PP.self
  generalize PP (some (.int r.1)) Γ r.2 = Q at hQ ⊢
  show WP l G yX13_ends cX13_ends 2 (some .int) d 0 0 Q 0 0 0 [(0, .ref (G.2.1 x0)), (1, .int x1)] [] Γ σ
  unfold fX13_ends at h
  refine r_aload_n 0 dX13_ends_0 rfl ?_
  refine r_iconst (v := 0) dX13_ends_1 (by decide) ?_
  refine q_putI dX13_ends_2 fd_X13_1 t0 h (fun τ1 h => ?_)
  refine r_aload_n 0 dX13_ends_5 rfl ?_
  refine r_iload_n 1 dX13_ends_6 rfl ?_
  obtain ⟨v2, ev2, h⟩ := bd0_some h
  refine q_cVI [.int x1] dX13_ends_7 cv_X13_315 (ci := 12) rfl rfl t0 rfl rfl (Nat.le_of_ble_eq_true rfl) (by omega) (kX13_endOf (d - 1) (by omega) x0 x1 t0 v2 ev2) ?_
  obtain rfl := Option.some.inj h
  exact r_ireturn dX13_ends_10 rfl hQ (Nat.le_refl _) (Nat.le_refl _)
theorem sX13_layLapses_L6 {l : Launch} {G : gg} {Γ : ly} {d : Nat} {Q : Option Value → ly → mm → Prop} (hdd : 6 ≤ d) (x0 : Nat) (t0 : tyOK Γ (0, 12) x0) {K : mm → Prop} (kx0 : ∀ (σ9 : mm), K σ9 → WP l G yX13_layLapses cX13_layLapses 3 (none) d 0 0 Q 0 0 24 [(0, .ref (G.2.1 x0))] [] Γ σ9) : ∀ (N : Nat) (s : (Int32 × mm)) (b : mm), loopN (fX13_layLapses_L6 Γ.2 x0) N s = some b → K b → WP l G yX13_layLapses cX13_layLapses 3 (none) d 0 0 Q 0 0 6 [(0, .ref (G.2.1 x0)), (1, .int s.1)] [] Γ s.2 := by
  refine r_loop (f := fX13_layLapses_L6 Γ.2 x0) (hlv := fun s => [(0, .ref (G.2.1 x0)), (1, .int s.1)]) (hsg := fun s => s.2) ?_
  rintro ⟨x1, σ⟩ r h hb hx
  have hb : ∀ (x1 : Int32) (σ : mm), r = .inl (x1, σ) → WP l G yX13_layLapses cX13_layLapses 3 (none) d 0 0 Q 0 0 6 [(0, .ref (G.2.1 x0)), (1, .int x1)] [] Γ σ := fun x1 σ e => hb (x1, σ) e
  have hx0 : ∀ (σ9 : mm), r = .inr σ9 → WP l G yX13_layLapses cX13_layLapses 3 (none) d 0 0 Q 0 0 24 [(0, .ref (G.2.1 x0))] [] Γ σ9 := fun σ9 e => kx0 σ9 (hx _ e)
  unfold fX13_layLapses_L6 at h
  have h := un2_some h
  show WP l G yX13_layLapses cX13_layLapses 3 (none) d 0 0 Q 0 0 6 [(0, .ref (G.2.1 x0)), (1, .int x1)] [] Γ σ
  refine r_iload_n 1 dX13_layLapses_6 rfl ?_
  refine r_iconst (v := 4) dX13_layLapses_7 (by decide) ?_
  refine r_icmp_ge 24 dX13_layLapses_8 (by decide) h (fun _ h => ?_) (fun _ h => ?_)
  · obtain rfl := Option.some.inj h
    refine r_pick [0] rfl ?_
    exact hx0 _ rfl
  · refine r_aload_n 0 dX13_layLapses_11 rfl ?_
    refine q_getR (e9 := (1, 0)) dX13_layLapses_12 fd_X13_127 t0 rfl h (fun r1 tr1 h => ?_)
    refine r_iload_n 1 dX13_layLapses_15 rfl ?_
    refine r_iconst (v := -1) dX13_layLapses_16 (by decide) ?_
    refine q_iast dX13_layLapses_17 tr1 h (fun τ2 h => ?_)
    refine q_iinc (v := 1) 1 (fun v3 => [(1, .int v3), (0, .ref (G.2.1 x0))]) dX13_layLapses_18 rfl (by decide) (by decide) (fun _ => rfl) h (fun v3 h => ?_)
    refine r_goto 6 dX13_layLapses_21 (by decide) ?_
    obtain rfl := Option.some.inj h
    refine r_pick [1, 0] rfl ?_
    exact hb _ _ rfl
theorem tX13_layLapses_b94 {l : Launch} {G : gg} {Γ : ly} {d : Nat} {Q : Option Value → ly → mm → Prop} (hdd : 6 ≤ d) (σ : mm) (x0 : Nat) (x1 : Int32) (x2 : Int32)  (t0 : tyOK Γ (0, 12) x0)  (r : ((Int32 × mm) ⊕ mm)) (h : fX13_layLapses_b94 Γ.2 σ x0 x1 x2 = some r) (hb : ∀ (x2 : Int32) (σ9 : mm), r = .inl (x2, σ9) → WP l G yX13_layLapses cX13_layLapses 3 (none) d 0 0 Q 0 0 51 [(0, .ref (G.2.1 x0)), (1, .int x1), (2, .int x2)] [] Γ σ9) (hx0 : ∀ (σ9 : mm), r = .inr σ9 → WP l G yX13_layLapses cX13_layLapses 3 (none) d 0 0 Q 0 0 100 [(0, .ref (G.2.1 x0))] [] Γ σ9) : WP l G yX13_layLapses cX13_layLapses 3 (none) d 0 0 Q 0 0 94 [(0, .ref (G.2.1 x0)), (1, .int x1), (2, .int x2)] [] Γ σ := by
  unfold fX13_layLapses_b94 at h
  refine q_iinc (v := 1) 2 (fun v1 => [(2, .int v1), (0, .ref (G.2.1 x0)), (1, .int x1)]) dX13_layLapses_94 rfl (by decide) (by decide) (fun _ => rfl) h (fun v1 h => ?_)
  refine r_goto 51 dX13_layLapses_97 (by decide) ?_
  obtain rfl := Option.some.inj h
  refine r_pick [1, 2, 0] rfl ?_
  exact hb _ _ rfl
theorem sX13_layLapses_L51 {l : Launch} {G : gg} {Γ : ly} {d : Nat} {Q : Option Value → ly → mm → Prop} (hdd : 6 ≤ d) (x0 : Nat) (x1 : Int32) (t0 : tyOK Γ (0, 12) x0) {K : mm → Prop} (kx0 : ∀ (σ9 : mm), K σ9 → WP l G yX13_layLapses cX13_layLapses 3 (none) d 0 0 Q 0 0 100 [(0, .ref (G.2.1 x0))] [] Γ σ9) : ∀ (N : Nat) (s : (Int32 × mm)) (b : mm), loopN (fX13_layLapses_L51 Γ.2 x0 x1) N s = some b → K b → WP l G yX13_layLapses cX13_layLapses 3 (none) d 0 0 Q 0 0 51 [(0, .ref (G.2.1 x0)), (1, .int x1), (2, .int s.1)] [] Γ s.2 := by
  refine r_loop (f := fX13_layLapses_L51 Γ.2 x0 x1) (hlv := fun s => [(0, .ref (G.2.1 x0)), (1, .int x1), (2, .int s.1)]) (hsg := fun s => s.2) ?_
  rintro ⟨x2, σ⟩ r h hb hx
  have hb : ∀ (x2 : Int32) (σ : mm), r = .inl (x2, σ) → WP l G yX13_layLapses cX13_layLapses 3 (none) d 0 0 Q 0 0 51 [(0, .ref (G.2.1 x0)), (1, .int x1), (2, .int x2)] [] Γ σ := fun x2 σ e => hb (x2, σ) e
  have hx0 : ∀ (σ9 : mm), r = .inr σ9 → WP l G yX13_layLapses cX13_layLapses 3 (none) d 0 0 Q 0 0 100 [(0, .ref (G.2.1 x0))] [] Γ σ9 := fun σ9 e => kx0 σ9 (hx _ e)
  unfold fX13_layLapses_L51 at h
  have h := un2_some h
  show WP l G yX13_layLapses cX13_layLapses 3 (none) d 0 0 Q 0 0 51 [(0, .ref (G.2.1 x0)), (1, .int x1), (2, .int x2)] [] Γ σ
  refine r_iload_n 2 dX13_layLapses_51 rfl ?_
  refine r_aload_n 0 dX13_layLapses_52 rfl ?_
  refine q_getR (e9 := (1, 0)) dX13_layLapses_53 fd_X13_98 t0 rfl h (fun r1 tr1 h => ?_)
  refine r_iconst (v := 1) dX13_layLapses_56 (by decide) ?_
  refine q_iald dX13_layLapses_57 tr1 h (fun v2 h => ?_)
  refine r_icmp_ge 100 dX13_layLapses_58 (by decide) h (fun _ h => ?_) (fun _ h => ?_)
  · obtain rfl := Option.some.inj h
    refine r_pick [0] rfl ?_
    exact hx0 _ rfl
  · refine r_aload_n 0 dX13_layLapses_61 rfl ?_
    refine q_getR (e9 := (1, 0)) dX13_layLapses_62 fd_X13_98 t0 rfl h (fun r3 tr3 h => ?_)
    refine r_bipush (v := 104) dX13_layLapses_65 (by decide) ?_
    refine q_iald dX13_layLapses_67 tr3 h (fun v4 h => ?_)
    refine r_iload_n 1 dX13_layLapses_68 rfl ?_
    refine r_iconst (v := -1) dX13_layLapses_69 (by decide) ?_
    refine r_ixor dX13_layLapses_70 ?_
    refine r_iand dX13_layLapses_71 ?_
    refine r_iload_n 2 dX13_layLapses_72 rfl ?_
    obtain ⟨v5, ev5, h⟩ := bd0_some h
    refine q_cSI [.int (v4 &&& (x1 ^^^ (-1 : Int32))), .int x2] dX13_layLapses_73 cs_X13_185 rfl rfl (Nat.le_of_ble_eq_true rfl) (by omega) (kX13_has (d - 1) (by omega) (v4 &&& (x1 ^^^ (-1 : Int32))) x2  v5 ev5) ?_
    refine r_if_eq 94 dX13_layLapses_76 (by decide) h (fun _ h => ?_) (fun _ h => ?_)
    · exact tX13_layLapses_b94 hdd σ x0 x1 x2 t0 _ h hb hx0
    · refine r_aload_n 0 dX13_layLapses_79 rfl ?_
      refine q_getR (e9 := (1, 0)) dX13_layLapses_80 fd_X13_127 t0 rfl h (fun r6 tr6 h => ?_)
      refine r_iload_n 2 dX13_layLapses_83 rfl ?_
      refine r_aload_n 0 dX13_layLapses_84 rfl ?_
      refine q_getR (e9 := (1, 0)) dX13_layLapses_85 fd_X13_98 t0 rfl h (fun r7 tr7 h => ?_)
      refine r_bipush (v := 102) dX13_layLapses_88 (by decide) ?_
      refine q_iald dX13_layLapses_90 tr7 h (fun v8 h => ?_)
      refine r_iconst (v := 1) dX13_layLapses_91 (by decide) ?_
      refine r_isub dX13_layLapses_92 ?_
      refine q_iast dX13_layLapses_93 tr6 h (fun τ9 h => ?_)
      exact tX13_layLapses_b94 hdd τ9 x0 x1 x2 t0 _ h hb hx0
theorem sX13_layLapses_L24 {l : Launch} {G : gg} {Γ : ly} {d : Nat} {Q : Option Value → ly → mm → Prop} (hdd : 6 ≤ d) (x0 : Nat) (t0 : tyOK Γ (0, 12) x0) {K : mm → Prop} (kx0 : ∀ (σ9 : mm), K σ9 → WP l G yX13_layLapses cX13_layLapses 3 (none) d 0 0 Q 0 0 103 [(0, .ref (G.2.1 x0))] [] Γ σ9) : ∀ (N : Nat) (s : mm) (b : mm), loopN (fX13_layLapses_L24 Γ.2 x0) N s = some b → K b → WP l G yX13_layLapses cX13_layLapses 3 (none) d 0 0 Q 0 0 24 [(0, .ref (G.2.1 x0))] [] Γ s := by
  refine r_loop (f := fX13_layLapses_L24 Γ.2 x0) (hlv := fun s => [(0, .ref (G.2.1 x0))]) (hsg := fun s => s) ?_
  rintro σ r h hb hx
  have hx0 : ∀ (σ9 : mm), r = .inr σ9 → WP l G yX13_layLapses cX13_layLapses 3 (none) d 0 0 Q 0 0 103 [(0, .ref (G.2.1 x0))] [] Γ σ9 := fun σ9 e => kx0 σ9 (hx _ e)
  unfold fX13_layLapses_L24 at h
  show WP l G yX13_layLapses cX13_layLapses 3 (none) d 0 0 Q 0 0 24 [(0, .ref (G.2.1 x0))] [] Γ σ
  refine r_aload_n 0 dX13_layLapses_24 rfl ?_
  refine q_getR (e9 := (1, 0)) dX13_layLapses_25 fd_X13_98 t0 rfl h (fun r1 tr1 h => ?_)
  refine r_bipush (v := 102) dX13_layLapses_28 (by decide) ?_
  refine q_iald dX13_layLapses_30 tr1 h (fun v2 h => ?_)
  refine r_sipush (v := 600) dX13_layLapses_31 (by decide) ?_
  refine r_icmp_ge 103 dX13_layLapses_34 (by decide) h (fun _ h => ?_) (fun _ h => ?_)
  · obtain rfl := Option.some.inj h
    exact hx0 _ rfl
  · refine r_aload_n 0 dX13_layLapses_37 rfl ?_
    refine q_getR (e9 := (1, 0)) dX13_layLapses_38 fd_X13_98 t0 rfl h (fun r3 tr3 h => ?_)
    refine r_bipush (v := 104) dX13_layLapses_41 (by decide) ?_
    refine q_iald dX13_layLapses_43 tr3 h (fun v4 h => ?_)
    refine r_istore_n (lv' := [(1, .int v4), (0, .ref (G.2.1 x0))]) dX13_layLapses_44 (by decide) rfl ?_
    refine r_aload_n 1 dX13_layLapses_45 rfl ?_
    obtain ⟨τ5, eτ5, h⟩ := bd0_some h
    refine q_cVV [] dX13_layLapses_46 cv_X13_306 (ci := 12) rfl rfl t0 rfl rfl (Nat.le_of_ble_eq_true rfl) (by omega) (kX13_oneHour (d - 1) (by omega) x0 t0 τ5 eτ5) ?_
    refine r_iconst (v := 0) dX13_layLapses_49 (by decide) ?_
    refine r_istore_n (lv' := [(2, .int (0 : Int32)), (1, .int v4), (0, .ref (G.2.1 x0))]) dX13_layLapses_50 (by decide) rfl ?_
    obtain ⟨b6, eb6, h⟩ := bd0_some h
    refine r_pick [2, 1, 0] rfl ?_
    refine sX13_layLapses_L51 hdd x0 v4 t0 (K := fun b => b = b6) ?_ 1000 ((0 : Int32), τ5) b6 eb6 rfl
    rintro τ7 rfl
    refine r_goto 24 dX13_layLapses_100 (by decide) ?_
    obtain rfl := Option.some.inj h
    exact hb _ rfl
theorem kX13_layLapses {l : Launch} {G : gg} {Γ : ly} {σ : mm} (d : Nat) (hdd : 6 ≤ d) (x0 : Nat) (t0 : tyOK Γ (0, 12) x0) (r : mm) (h : fX13_layLapses Γ.2 σ x0 = some r) : CT l G yX13_layLapses cX13_layLapses 3 (none) d 0 0 [.ref (G.2.1 x0)] Γ σ (PP none Γ r) := by
  refine CT.ofWP (by decide) (Nat.le_of_ble_eq_true rfl) ?_
  have hQ : PP none Γ r none Γ r := PP.self
  generalize PP none Γ r = Q at hQ ⊢
  show WP l G yX13_layLapses cX13_layLapses 3 (none) d 0 0 Q 0 0 0 [(0, .ref (G.2.1 x0))] [] Γ σ
  unfold fX13_layLapses at h
  refine r_aload_n 0 dX13_layLapses_0 rfl ?_
  obtain ⟨τ1, eτ1, h⟩ := bd0_some h
  refine q_cVV [] dX13_layLapses_1 cv_X13_318 (ci := 12) rfl rfl t0 rfl rfl (Nat.le_of_ble_eq_true rfl) (by omega) (kX13_layAside (d - 1) (by omega) x0 t0 τ1 eτ1) ?_
  refine r_iconst (v := 0) dX13_layLapses_4 (by decide) ?_
  refine r_istore_n (lv' := [(1, .int (0 : Int32)), (0, .ref (G.2.1 x0))]) dX13_layLapses_5 (by decide) rfl ?_
  obtain ⟨b2, eb2, h⟩ := bd0_some h
  refine r_pick [1, 0] rfl ?_
  refine sX13_layLapses_L6 hdd x0 t0 (K := fun b => b = b2) ?_ 1000 ((0 : Int32), τ1) b2 eb2 rfl
  rintro τ3 rfl
  obtain ⟨b4, eb4, h⟩ := bd0_some h
  refine sX13_layLapses_L24 hdd x0 t0 (K := fun b => b = b4) ?_ 1000 τ3 b4 eb4 rfl
  rintro τ5 rfl
  refine r_aload_n 0 dX13_layLapses_103 rfl ?_
  obtain ⟨τ6, eτ6, h⟩ := bd0_some h
  refine q_cVV [] dX13_layLapses_104 cv_X13_321 (ci := 12) rfl rfl t0 rfl rfl (Nat.le_of_ble_eq_true rfl) (by omega) (kX13_takeBack (d - 1) (by omega) x0 t0 τ6 eτ6) ?_
  obtain rfl := Option.some.inj h
  exact r_return dX13_layLapses_107 rfl hQ (Nat.le_refl _) (Nat.le_refl _)
theorem kX13_lapses {l : Launch} {G : gg} {Γ : ly} {σ : mm} (d : Nat) (hdd : 7 ≤ d) (x0 : Nat) (x1 : Int32) (t0 : tyOK Γ (0, 12) x0) (r : (Int32 × mm)) (h : fX13_lapses Γ.2 σ x0 x1 = some r) : CT l G yX13_lapses cX13_lapses 2 (some .int) d 0 0 [.ref (G.2.1 x0), .int x1] Γ σ (PP (some (.int r.1)) Γ r.2) := by
  refine CT.ofWP (by decide) (Nat.le_of_ble_eq_true rfl) ?_
  have hQ : PP (some (.int r.1)) Γ r.2 (some (.int r.1)) Γ r.2 := PP.self
  generalize PP (some (.int r.1)) Γ r.2 = Q at hQ ⊢
  show WP l G yX13_lapses cX13_lapses 2 (some .int) d 0 0 Q 0 0 0 [(0, .ref (G.2.1 x0)), (1, .int x1)] [] Γ σ
  unfold fX13_lapses at h
  refine r_aload_n 0 dX13_lapses_0 rfl ?_
  refine r_iconst (v := 0) dX13_lapses_1 (by decide) ?_
  refine q_putI dX13_lapses_2 fd_X13_1 t0 h (fun τ1 h => ?_)
  refine r_aload_n 0 dX13_lapses_5 rfl ?_
  refine r_iload_n 1 dX13_lapses_6 rfl ?_
  obtain ⟨v2, ev2, h⟩ := bd0_some h
  refine q_cVI [.int x1] dX13_lapses_7 cv_X13_258 (ci := 12) rfl rfl t0 rfl rfl (Nat.le_of_ble_eq_true rfl) (by omega) (kX13_isGlass (d - 1) (by omega) x0 x1 t0 v2 ev2) ?_
  refine r_if_ne 15 dX13_lapses_10 (by decide) h (fun _ h => ?_) (fun _ h => ?_)
  · refine r_aload_n 0 dX13_lapses_15 rfl ?_
    obtain ⟨τ3, eτ3, h⟩ := bd0_some h
    refine q_cVV [] dX13_lapses_16 cv_X13_324 (ci := 12) rfl rfl t0 rfl rfl (Nat.le_of_ble_eq_true rfl) (by omega) (kX13_layLapses (d - 1) (by omega) x0 t0 τ3 eτ3) ?_
    refine r_aload_n 0 dX13_lapses_19 rfl ?_
    refine q_getR (e9 := (1, 0)) dX13_lapses_20 fd_X13_127 t0 rfl h (fun r4 tr4 h => ?_)
    refine r_iload_n 1 dX13_lapses_23 rfl ?_
    refine q_iald dX13_lapses_24 tr4 h (fun v5 h => ?_)
    obtain rfl := Option.some.inj h
    exact r_ireturn dX13_lapses_25 rfl hQ (Nat.le_refl _) (Nat.le_refl _)
  · refine r_iconst (v := -1) dX13_lapses_13 (by decide) ?_
    obtain rfl := Option.some.inj h
    exact r_ireturn dX13_lapses_14 rfl hQ (Nat.le_refl _) (Nat.le_refl _)
