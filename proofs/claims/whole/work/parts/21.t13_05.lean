/-! the walks, 5 -/
theorem sX13_snap_L51 {l : Launch} {G : gg} {Γ : ly} {d : Nat} {Q : Option Value → ly → mm → Prop} (hdd : 0 ≤ d) (x0 : Nat) (t0 : tyOK Γ (0, 12) x0) {K : mm → Prop} (kx0 : ∀ (σ9 : mm), K σ9 → WP l G yX13_snap cX13_snap 2 (none) d 0 0 Q 0 0 86 [(0, .ref (G.2.1 x0))] [] Γ σ9) : ∀ (N : Nat) (s : (Int32 × mm)) (b : mm), loopN (fX13_snap_L51 Γ.2 x0) N s = some b → K b → WP l G yX13_snap cX13_snap 2 (none) d 0 0 Q 0 0 51 [(0, .ref (G.2.1 x0)), (1, .int s.1)] [] Γ s.2 := by
  refine r_loop (f := fX13_snap_L51 Γ.2 x0) (hlv := fun s => [(0, .ref (G.2.1 x0)), (1, .int s.1)]) (hsg := fun s => s.2) ?_
  rintro ⟨x1, σ⟩ r h hb hx
  have hb : ∀ (x1 : Int32) (σ : mm), r = .inl (x1, σ) → WP l G yX13_snap cX13_snap 2 (none) d 0 0 Q 0 0 51 [(0, .ref (G.2.1 x0)), (1, .int x1)] [] Γ σ := fun x1 σ e => hb (x1, σ) e
  have hx0 : ∀ (σ9 : mm), r = .inr σ9 → WP l G yX13_snap cX13_snap 2 (none) d 0 0 Q 0 0 86 [(0, .ref (G.2.1 x0))] [] Γ σ9 := fun σ9 e => kx0 σ9 (hx _ e)
  unfold fX13_snap_L51 at h
  have h := un2_some h
  show WP l G yX13_snap cX13_snap 2 (none) d 0 0 Q 0 0 51 [(0, .ref (G.2.1 x0)), (1, .int x1)] [] Γ σ
  refine r_iload_n 1 dX13_snap_51 rfl ?_
  refine r_bipush (v := 39) dX13_snap_52 (by decide) ?_
  refine r_icmp_ge 86 dX13_snap_54 (by decide) h (fun _ h => ?_) (fun _ h => ?_)
  · obtain rfl := Option.some.inj h
    refine r_pick [0] rfl ?_
    exact hx0 _ rfl
  · refine r_aload_n 0 dX13_snap_57 rfl ?_
    refine q_getR (e9 := (1, 0)) dX13_snap_58 fd_X13_107 t0 rfl h (fun r1 tr1 h => ?_)
    refine r_bipush (v := 39) dX13_snap_61 (by decide) ?_
    refine r_aload_n 0 dX13_snap_63 rfl ?_
    refine r_getI dX13_snap_64 fd_X13_221 t0 ?_
    refine r_imul dX13_snap_67 ?_
    refine r_iload_n 1 dX13_snap_68 rfl ?_
    refine r_iadd dX13_snap_69 ?_
    refine r_aload_n 0 dX13_snap_70 rfl ?_
    refine q_getR (e9 := (1, 0)) dX13_snap_71 fd_X13_98 t0 rfl h (fun r2 tr2 h => ?_)
    refine r_bipush (v := 102) dX13_snap_74 (by decide) ?_
    refine r_iload_n 1 dX13_snap_76 rfl ?_
    refine r_iadd dX13_snap_77 ?_
    refine q_iald dX13_snap_78 tr2 h (fun v3 h => ?_)
    refine q_iast dX13_snap_79 tr1 h (fun τ4 h => ?_)
    refine q_iinc (v := 1) 1 (fun v5 => [(1, .int v5), (0, .ref (G.2.1 x0))]) dX13_snap_80 rfl (by decide) (by decide) (fun _ => rfl) h (fun v5 h => ?_)
    refine r_goto 51 dX13_snap_83 (by decide) ?_
    obtain rfl := Option.some.inj h
    refine r_pick [1, 0] rfl ?_
    exact hb _ _ rfl
theorem tX13_snap_b49 {l : Launch} {G : gg} {Γ : ly} {d : Nat} {Q : Option Value → ly → mm → Prop} (hdd : 0 ≤ d) (σ : mm) (x0 : Nat)  (t0 : tyOK Γ (0, 12) x0)  (r : mm) (h : fX13_snap_b49 Γ.2 σ x0 = some r) (hQ : Q none Γ r) : WP l G yX13_snap cX13_snap 2 (none) d 0 0 Q 0 0 49 [(0, .ref (G.2.1 x0))] [] Γ σ := by
  unfold fX13_snap_b49 at h
  refine r_iconst (v := 0) dX13_snap_49 (by decide) ?_
  refine r_istore_n (lv' := [(1, .int (0 : Int32)), (0, .ref (G.2.1 x0))]) dX13_snap_50 (by decide) rfl ?_
  obtain ⟨b1, eb1, h⟩ := bd0_some h
  refine r_pick [1, 0] rfl ?_
  refine sX13_snap_L51 hdd x0 t0 (K := fun b => b = b1) ?_ 1000 ((0 : Int32), σ) b1 eb1 rfl
  rintro τ2 rfl
  refine r_aload_n 0 dX13_snap_86 rfl ?_
  refine r_dup dX13_snap_87 rfl ?_
  refine r_getI dX13_snap_88 fd_X13_221 t0 ?_
  refine r_iconst (v := 1) dX13_snap_91 (by decide) ?_
  refine r_iadd dX13_snap_92 ?_
  refine q_putI dX13_snap_93 fd_X13_221 t0 h (fun τ3 h => ?_)
  obtain rfl := Option.some.inj h
  exact r_return dX13_snap_96 rfl hQ (Nat.le_refl _) (Nat.le_refl _)
theorem sX13_snap_L11 {l : Launch} {G : gg} {Γ : ly} {d : Nat} {Q : Option Value → ly → mm → Prop} (hdd : 0 ≤ d) (x0 : Nat) (t0 : tyOK Γ (0, 12) x0) {K : mm → Prop} (kx0 : ∀ (σ9 : mm), K σ9 → WP l G yX13_snap cX13_snap 2 (none) d 0 0 Q 0 0 39 [(0, .ref (G.2.1 x0))] [] Γ σ9) : ∀ (N : Nat) (s : (Int32 × mm)) (b : mm), loopN (fX13_snap_L11 Γ.2 x0) N s = some b → K b → WP l G yX13_snap cX13_snap 2 (none) d 0 0 Q 0 0 11 [(0, .ref (G.2.1 x0)), (1, .int s.1)] [] Γ s.2 := by
  refine r_loop (f := fX13_snap_L11 Γ.2 x0) (hlv := fun s => [(0, .ref (G.2.1 x0)), (1, .int s.1)]) (hsg := fun s => s.2) ?_
  rintro ⟨x1, σ⟩ r h hb hx
  have hb : ∀ (x1 : Int32) (σ : mm), r = .inl (x1, σ) → WP l G yX13_snap cX13_snap 2 (none) d 0 0 Q 0 0 11 [(0, .ref (G.2.1 x0)), (1, .int x1)] [] Γ σ := fun x1 σ e => hb (x1, σ) e
  have hx0 : ∀ (σ9 : mm), r = .inr σ9 → WP l G yX13_snap cX13_snap 2 (none) d 0 0 Q 0 0 39 [(0, .ref (G.2.1 x0))] [] Γ σ9 := fun σ9 e => kx0 σ9 (hx _ e)
  unfold fX13_snap_L11 at h
  have h := un2_some h
  show WP l G yX13_snap cX13_snap 2 (none) d 0 0 Q 0 0 11 [(0, .ref (G.2.1 x0)), (1, .int x1)] [] Γ σ
  refine r_iload_n 1 dX13_snap_11 rfl ?_
  refine r_sipush (v := 273) dX13_snap_12 (by decide) ?_
  refine r_icmp_ge 39 dX13_snap_15 (by decide) h (fun _ h => ?_) (fun _ h => ?_)
  · obtain rfl := Option.some.inj h
    refine r_pick [0] rfl ?_
    exact hx0 _ rfl
  · refine r_aload_n 0 dX13_snap_18 rfl ?_
    refine q_getR (e9 := (1, 0)) dX13_snap_19 fd_X13_107 t0 rfl h (fun r1 tr1 h => ?_)
    refine r_iload_n 1 dX13_snap_22 rfl ?_
    refine r_aload_n 0 dX13_snap_23 rfl ?_
    refine q_getR (e9 := (1, 0)) dX13_snap_24 fd_X13_107 t0 rfl h (fun r2 tr2 h => ?_)
    refine r_iload_n 1 dX13_snap_27 rfl ?_
    refine r_bipush (v := 39) dX13_snap_28 (by decide) ?_
    refine r_iadd dX13_snap_30 ?_
    refine q_iald dX13_snap_31 tr2 h (fun v3 h => ?_)
    refine q_iast dX13_snap_32 tr1 h (fun τ4 h => ?_)
    refine q_iinc (v := 1) 1 (fun v5 => [(1, .int v5), (0, .ref (G.2.1 x0))]) dX13_snap_33 rfl (by decide) (by decide) (fun _ => rfl) h (fun v5 h => ?_)
    refine r_goto 11 dX13_snap_36 (by decide) ?_
    obtain rfl := Option.some.inj h
    refine r_pick [1, 0] rfl ?_
    exact hb _ _ rfl
theorem kX13_snap {l : Launch} {G : gg} {Γ : ly} {σ : mm} (d : Nat) (hdd : 0 ≤ d) (x0 : Nat) (t0 : tyOK Γ (0, 12) x0) (r : mm) (h : fX13_snap Γ.2 σ x0 = some r) : CT l G yX13_snap cX13_snap 2 (none) d 0 0 [.ref (G.2.1 x0)] Γ σ (PP none Γ r) := by
  refine CT.ofWP (by decide) (Nat.le_of_ble_eq_true rfl) ?_
  have hQ : PP none Γ r none Γ r := PP.self
  generalize PP none Γ r = Q at hQ ⊢
  show WP l G yX13_snap cX13_snap 2 (none) d 0 0 Q 0 0 0 [(0, .ref (G.2.1 x0))] [] Γ σ
  unfold fX13_snap at h
  refine r_aload_n 0 dX13_snap_0 rfl ?_
  refine r_getI dX13_snap_1 fd_X13_221 t0 ?_
  refine r_bipush (v := 8) dX13_snap_4 (by decide) ?_
  refine r_icmp_ne 49 dX13_snap_6 (by decide) h (fun _ h => ?_) (fun _ h => ?_)
  · exact tX13_snap_b49 hdd σ x0 t0 _ h hQ
  · refine r_iconst (v := 0) dX13_snap_9 (by decide) ?_
    refine r_istore_n (lv' := [(1, .int (0 : Int32)), (0, .ref (G.2.1 x0))]) dX13_snap_10 (by decide) rfl ?_
    obtain ⟨b1, eb1, h⟩ := bd0_some h
    refine r_pick [1, 0] rfl ?_
    refine sX13_snap_L11 hdd x0 t0 (K := fun b => b = b1) ?_ 1000 ((0 : Int32), σ) b1 eb1 rfl
    rintro τ2 rfl
    refine r_aload_n 0 dX13_snap_39 rfl ?_
    refine r_dup dX13_snap_40 rfl ?_
    refine r_getI dX13_snap_41 fd_X13_221 t0 ?_
    refine r_iconst (v := 1) dX13_snap_44 (by decide) ?_
    refine r_isub dX13_snap_45 ?_
    refine q_putI dX13_snap_46 fd_X13_221 t0 h (fun τ3 h => ?_)
    exact tX13_snap_b49 hdd τ3 x0 t0 _ h hQ
theorem tX13_whyWed_b23 {l : Launch} {G : gg} {Γ : ly} {d : Nat} {Q : Option Value → ly → mm → Prop} (hdd : 2 ≤ d) (σ : mm)     (r : Int32) (h : fX13_whyWed_b23 Γ.2 σ  = some r) (hQ : Q (some (.int r)) Γ σ) : WP l G yX13_whyWed cX13_whyWed 3 (some .int) d 0 0 Q 0 0 23 [] [] Γ σ := by
  unfold fX13_whyWed_b23 at h
  refine r_iconst (v := 1) dX13_whyWed_23 (by decide) ?_
  obtain rfl := Option.some.inj h
  exact r_ireturn dX13_whyWed_24 rfl hQ (Nat.le_refl _) (Nat.le_refl _)
theorem tX13_whyWed_b45 {l : Launch} {G : gg} {Γ : ly} {d : Nat} {Q : Option Value → ly → mm → Prop} (hdd : 2 ≤ d) (σ : mm)  (s0 : Int32)   (r : Int32) (h : fX13_whyWed_b45 Γ.2 σ s0 = some r) (hQ : Q (some (.int r)) Γ σ) : WP l G yX13_whyWed cX13_whyWed 3 (some .int) d 0 0 Q 0 0 45 [] [.int s0] Γ σ := by
  unfold fX13_whyWed_b45 at h
  obtain rfl := Option.some.inj h
  exact r_ireturn dX13_whyWed_45 rfl hQ (Nat.le_refl _) (Nat.le_refl _)
theorem kX13_whyWed {l : Launch} {G : gg} {Γ : ly} {σ : mm} (d : Nat) (hdd : 2 ≤ d) (x0 : Nat) (x1 : Int32) (t0 : tyOK Γ (0, 12) x0) (r : Int32) (h : fX13_whyWed Γ.2 σ x0 x1 = some r) : CT l G yX13_whyWed cX13_whyWed 3 (some .int) d 0 0 [.ref (G.2.1 x0), .int x1] Γ σ (PP (some (.int r)) Γ σ) := by
  refine CT.ofWP (by decide) (Nat.le_of_ble_eq_true rfl) ?_
  have hQ : PP (some (.int r)) Γ σ (some (.int r)) Γ σ := PP.self
  generalize PP (some (.int r)) Γ σ = Q at hQ ⊢
  show WP l G yX13_whyWed cX13_whyWed 3 (some .int) d 0 0 Q 0 0 0 [(0, .ref (G.2.1 x0)), (1, .int x1)] [] Γ σ
  unfold fX13_whyWed at h
  refine r_aload_n 0 dX13_whyWed_0 rfl ?_
  refine q_getR (e9 := (1, 0)) dX13_whyWed_1 fd_X13_98 t0 rfl h (fun r1 tr1 h => ?_)
  refine r_bipush (v := 48) dX13_whyWed_4 (by decide) ?_
  refine r_iload_n 1 dX13_whyWed_6 rfl ?_
  refine r_iadd dX13_whyWed_7 ?_
  refine q_iald dX13_whyWed_8 tr1 h (fun v2 h => ?_)
  refine r_istore_n (lv' := [(2, .int v2), (0, .ref (G.2.1 x0)), (1, .int x1)]) dX13_whyWed_9 (by decide) rfl ?_
  refine r_iload_n 0 dX13_whyWed_10 rfl ?_
  refine r_iconst (v := -1) dX13_whyWed_11 (by decide) ?_
  refine r_icmp_eq 23 dX13_whyWed_12 (by decide) h (fun _ h => ?_) (fun _ h => ?_)
  · refine r_pick [] rfl ?_
    exact tX13_whyWed_b23 hdd σ  _ h hQ
  · refine r_aload_n 1 dX13_whyWed_15 rfl ?_
    refine r_iload_n 0 dX13_whyWed_16 rfl ?_
    obtain ⟨v3, ev3, h⟩ := bd0_some h
    refine q_cVI [.int v2] dX13_whyWed_17 cv_X13_261 (ci := 12) rfl rfl t0 rfl rfl (Nat.le_of_ble_eq_true rfl) (by omega) (kX13_isLapsed (d - 1) (by omega) x0 v2 t0 v3 ev3) ?_
    refine r_if_eq 25 dX13_whyWed_20 (by decide) h (fun _ h => ?_) (fun _ h => ?_)
    · refine r_aload_n 1 dX13_whyWed_25 rfl ?_
      refine r_iload_n 2 dX13_whyWed_26 rfl ?_
      refine r_aload_n 1 dX13_whyWed_27 rfl ?_
      refine q_getR (e9 := (1, 0)) dX13_whyWed_28 fd_X13_98 t0 rfl h (fun r4 tr4 h => ?_)
      refine r_bipush (v := 102) dX13_whyWed_31 (by decide) ?_
      refine q_iald dX13_whyWed_33 tr4 h (fun v5 h => ?_)
      obtain ⟨v6, ev6, h⟩ := bd0_some h
      refine q_cVI [.int x1, .int v5] dX13_whyWed_34 cv_X13_234 (ci := 12) rfl rfl t0 rfl rfl (Nat.le_of_ble_eq_true rfl) (by omega) (kX13_isAwake (d - 1) (by omega) x0 x1 v5 t0 v6 ev6) ?_
      refine r_if_eq 44 dX13_whyWed_37 (by decide) h (fun _ h => ?_) (fun _ h => ?_)
      · refine r_iconst (v := 2) dX13_whyWed_44 (by decide) ?_
        refine r_pick [] rfl ?_
        exact tX13_whyWed_b45 hdd σ (2 : Int32)  _ h hQ
      · refine r_iconst (v := 0) dX13_whyWed_40 (by decide) ?_
        refine r_goto 45 dX13_whyWed_41 (by decide) ?_
        refine r_pick [] rfl ?_
        exact tX13_whyWed_b45 hdd σ (0 : Int32)  _ h hQ
    · refine r_pick [] rfl ?_
      exact tX13_whyWed_b23 hdd σ  _ h hQ
theorem tX13_whyTurn_b73 {l : Launch} {G : gg} {Γ : ly} {d : Nat} {Q : Option Value → ly → mm → Prop} (hdd : 3 ≤ d) (σ : mm)  (s0 : Int32)   (r : Int32) (h : fX13_whyTurn_b73 Γ.2 σ s0 = some r) (hQ : Q (some (.int r)) Γ σ) : WP l G yX13_whyTurn cX13_whyTurn 3 (some .int) d 0 0 Q 0 0 73 [] [.int s0] Γ σ := by
  unfold fX13_whyTurn_b73 at h
  obtain rfl := Option.some.inj h
  exact r_ireturn dX13_whyTurn_73 rfl hQ (Nat.le_refl _) (Nat.le_refl _)
theorem tX13_whyTurn_b47 {l : Launch} {G : gg} {Γ : ly} {d : Nat} {Q : Option Value → ly → mm → Prop} (hdd : 3 ≤ d) (σ : mm) (x0 : Nat) (x2 : Int32)  (t0 : tyOK Γ (0, 12) x0)  (r : Int32) (h : fX13_whyTurn_b47 Γ.2 σ x0 x2 = some r) (hQ : Q (some (.int r)) Γ σ) : WP l G yX13_whyTurn cX13_whyTurn 3 (some .int) d 0 0 Q 0 0 47 [(0, .ref (G.2.1 x0)), (2, .int x2)] [] Γ σ := by
  unfold fX13_whyTurn_b47 at h
  refine r_aload_n 0 dX13_whyTurn_47 rfl ?_
  refine q_getR (e9 := (1, 0)) dX13_whyTurn_48 fd_X13_98 t0 rfl h (fun r1 tr1 h => ?_)
  refine r_bipush (v := 125) dX13_whyTurn_51 (by decide) ?_
  refine r_iload_n 1 dX13_whyTurn_53 rfl ?_
  refine r_iadd dX13_whyTurn_54 ?_
  refine q_iald dX13_whyTurn_55 tr1 h (fun v2 h => ?_)
  refine r_aload_n 0 dX13_whyTurn_56 rfl ?_
  refine q_getR (e9 := (1, 0)) dX13_whyTurn_57 fd_X13_98 t0 rfl h (fun r3 tr3 h => ?_)
  refine r_bipush (v := 64) dX13_whyTurn_60 (by decide) ?_
  refine r_iload_n 1 dX13_whyTurn_62 rfl ?_
  refine r_iadd dX13_whyTurn_63 ?_
  refine q_iald dX13_whyTurn_64 tr3 h (fun v4 h => ?_)
  refine r_icmp_ne 72 dX13_whyTurn_65 (by decide) h (fun _ h => ?_) (fun _ h => ?_)
  · refine r_iconst (v := 0) dX13_whyTurn_72 (by decide) ?_
    refine r_pick [] rfl ?_
    exact tX13_whyTurn_b73 hdd σ (0 : Int32)  _ h hQ
  · refine r_iconst (v := 4) dX13_whyTurn_68 (by decide) ?_
    refine r_goto 73 dX13_whyTurn_69 (by decide) ?_
    refine r_pick [] rfl ?_
    exact tX13_whyTurn_b73 hdd σ (4 : Int32)  _ h hQ
theorem kX13_whyTurn {l : Launch} {G : gg} {Γ : ly} {σ : mm} (d : Nat) (hdd : 3 ≤ d) (x0 : Nat) (x1 : Int32) (t0 : tyOK Γ (0, 12) x0) (r : Int32) (h : fX13_whyTurn Γ.2 σ x0 x1 = some r) : CT l G yX13_whyTurn cX13_whyTurn 3 (some .int) d 0 0 [.ref (G.2.1 x0), .int x1] Γ σ (PP (some (.int r)) Γ σ) := by
  refine CT.ofWP (by decide) (Nat.le_of_ble_eq_true rfl) ?_
  have hQ : PP (some (.int r)) Γ σ (some (.int r)) Γ σ := PP.self
  generalize PP (some (.int r)) Γ σ = Q at hQ ⊢
  show WP l G yX13_whyTurn cX13_whyTurn 3 (some .int) d 0 0 Q 0 0 0 [(0, .ref (G.2.1 x0)), (1, .int x1)] [] Γ σ
  unfold fX13_whyTurn at h
  refine r_aload_n 0 dX13_whyTurn_0 rfl ?_
  refine r_iload_n 1 dX13_whyTurn_1 rfl ?_
  obtain ⟨v1, ev1, h⟩ := bd0_some h
  refine q_cVI [.int x1] dX13_whyTurn_2 cv_X13_267 (ci := 12) rfl rfl t0 rfl rfl (Nat.le_of_ble_eq_true rfl) (by omega) (kX13_whyWed (d - 1) (by omega) x0 x1 t0 v1 ev1) ?_
  refine r_if_eq 14 dX13_whyTurn_5 (by decide) h (fun _ h => ?_) (fun _ h => ?_)
  · refine r_aload_n 0 dX13_whyTurn_14 rfl ?_
    refine q_getR (e9 := (1, 0)) dX13_whyTurn_15 fd_X13_98 t0 rfl h (fun r2 tr2 h => ?_)
    refine r_bipush (v := 48) dX13_whyTurn_18 (by decide) ?_
    refine r_iload_n 1 dX13_whyTurn_20 rfl ?_
    refine r_iadd dX13_whyTurn_21 ?_
    refine q_iald dX13_whyTurn_22 tr2 h (fun v3 h => ?_)
    refine r_istore_n (lv' := [(2, .int v3), (0, .ref (G.2.1 x0)), (1, .int x1)]) dX13_whyTurn_23 (by decide) rfl ?_
    refine r_aload_n 1 dX13_whyTurn_24 rfl ?_
    refine q_getR (e9 := (1, 0)) dX13_whyTurn_25 fd_X13_98 t0 rfl h (fun r4 tr4 h => ?_)
    refine r_bipush (v := 125) dX13_whyTurn_28 (by decide) ?_
    refine r_iload_n 0 dX13_whyTurn_30 rfl ?_
    refine r_iadd dX13_whyTurn_31 ?_
    refine q_iald dX13_whyTurn_32 tr4 h (fun v5 h => ?_)
    refine r_if_le 47 dX13_whyTurn_33 (by decide) h (fun _ h => ?_) (fun _ h => ?_)
    · refine r_pick [1, 0] rfl ?_
      exact tX13_whyTurn_b47 hdd σ x0 v3 t0 _ h hQ
    · refine r_aload_n 1 dX13_whyTurn_36 rfl ?_
      refine q_getR (e9 := (1, 0)) dX13_whyTurn_37 fd_X13_98 t0 rfl h (fun r6 tr6 h => ?_)
      refine r_iconst (v := 5) dX13_whyTurn_40 (by decide) ?_
      refine q_iald dX13_whyTurn_41 tr6 h (fun v7 h => ?_)
      refine r_if_ne 47 dX13_whyTurn_42 (by decide) h (fun _ h => ?_) (fun _ h => ?_)
      · refine r_pick [1, 0] rfl ?_
        exact tX13_whyTurn_b47 hdd σ x0 v3 t0 _ h hQ
      · refine r_iconst (v := 3) dX13_whyTurn_45 (by decide) ?_
        obtain rfl := Option.some.inj h
        exact r_ireturn dX13_whyTurn_46 rfl hQ (Nat.le_refl _) (Nat.le_refl _)
  · refine r_aload_n 0 dX13_whyTurn_8 rfl ?_
    refine r_iload_n 1 dX13_whyTurn_9 rfl ?_
    obtain ⟨v8, ev8, h⟩ := bd0_some h
    refine q_cVI [.int x1] dX13_whyTurn_10 cv_X13_267 (ci := 12) rfl rfl t0 rfl rfl (Nat.le_of_ble_eq_true rfl) (by omega) (kX13_whyWed (d - 1) (by omega) x0 x1 t0 v8 ev8) ?_
    obtain rfl := Option.some.inj h
    exact r_ireturn dX13_whyTurn_13 rfl hQ (Nat.le_refl _) (Nat.le_refl _)
theorem kX13_doTurn {l : Launch} {G : gg} {Γ : ly} {σ : mm} (d : Nat) (hdd : 0 ≤ d) (x0 : Nat) (x1 : Int32) (t0 : tyOK Γ (0, 12) x0) (r : mm) (h : fX13_doTurn Γ.2 σ x0 x1 = some r) : CT l G yX13_doTurn cX13_doTurn 3 (none) d 0 0 [.ref (G.2.1 x0), .int x1] Γ σ (PP none Γ r) := by
  refine CT.ofWP (by decide) (Nat.le_of_ble_eq_true rfl) ?_
  have hQ : PP none Γ r none Γ r := PP.self
  generalize PP none Γ r = Q at hQ ⊢
  show WP l G yX13_doTurn cX13_doTurn 3 (none) d 0 0 Q 0 0 0 [(0, .ref (G.2.1 x0)), (1, .int x1)] [] Γ σ
  unfold fX13_doTurn at h
  refine r_aload_n 0 dX13_doTurn_0 rfl ?_
  refine q_getR (e9 := (1, 0)) dX13_doTurn_1 fd_X13_98 t0 rfl h (fun r1 tr1 h => ?_)
  refine r_bipush (v := 48) dX13_doTurn_4 (by decide) ?_
  refine r_iload_n 1 dX13_doTurn_6 rfl ?_
  refine r_iadd dX13_doTurn_7 ?_
  refine q_iald dX13_doTurn_8 tr1 h (fun v2 h => ?_)
  refine r_istore_n (lv' := [(2, .int v2), (0, .ref (G.2.1 x0)), (1, .int x1)]) dX13_doTurn_9 (by decide) rfl ?_
  refine r_aload_n 1 dX13_doTurn_10 rfl ?_
  refine q_getR (e9 := (1, 0)) dX13_doTurn_11 fd_X13_98 t0 rfl h (fun r3 tr3 h => ?_)
  refine r_bipush (v := 125) dX13_doTurn_14 (by decide) ?_
  refine r_iload_n 0 dX13_doTurn_16 rfl ?_
  refine r_iadd dX13_doTurn_17 ?_
  refine r_aload_n 1 dX13_doTurn_18 rfl ?_
  refine q_getR (e9 := (1, 0)) dX13_doTurn_19 fd_X13_98 t0 rfl h (fun r4 tr4 h => ?_)
  refine r_bipush (v := 64) dX13_doTurn_22 (by decide) ?_
  refine r_iload_n 0 dX13_doTurn_24 rfl ?_
  refine r_iadd dX13_doTurn_25 ?_
  refine q_iald dX13_doTurn_26 tr4 h (fun v5 h => ?_)
  refine r_aload_n 1 dX13_doTurn_27 rfl ?_
  refine q_getR (e9 := (1, 0)) dX13_doTurn_28 fd_X13_98 t0 rfl h (fun r6 tr6 h => ?_)
  refine r_bipush (v := 125) dX13_doTurn_31 (by decide) ?_
  refine r_iload_n 0 dX13_doTurn_33 rfl ?_
  refine r_iadd dX13_doTurn_34 ?_
  refine q_iald dX13_doTurn_35 tr6 h (fun v7 h => ?_)
  refine r_isub dX13_doTurn_36 ?_
  refine q_iast dX13_doTurn_37 tr3 h (fun τ8 h => ?_)
  refine r_aload_n 1 dX13_doTurn_38 rfl ?_
  refine q_getR (e9 := (1, 0)) dX13_doTurn_39 fd_X13_98 t0 rfl h (fun r9 tr9 h => ?_)
  refine r_sipush (v := 133) dX13_doTurn_42 (by decide) ?_
  refine r_iload_n 0 dX13_doTurn_45 rfl ?_
  refine r_iadd dX13_doTurn_46 ?_
  refine r_iconst (v := 0) dX13_doTurn_47 (by decide) ?_
  refine q_iast dX13_doTurn_48 tr9 h (fun τ10 h => ?_)
  refine r_aload_n 1 dX13_doTurn_49 rfl ?_
  refine q_getR (e9 := (1, 0)) dX13_doTurn_50 fd_X13_98 t0 rfl h (fun r11 tr11 h => ?_)
  refine r_sipush (v := 137) dX13_doTurn_53 (by decide) ?_
  refine r_iload_n 0 dX13_doTurn_56 rfl ?_
  refine r_iadd dX13_doTurn_57 ?_
  refine r_dup2 dX13_doTurn_58 rfl rfl ?_
  refine q_iald dX13_doTurn_59 tr11 h (fun v12 h => ?_)
  refine r_iconst (v := 1) dX13_doTurn_60 (by decide) ?_
  refine r_iadd dX13_doTurn_61 ?_
  refine q_iast dX13_doTurn_62 tr11 h (fun τ13 h => ?_)
  refine r_aload_n 1 dX13_doTurn_63 rfl ?_
  refine q_getR (e9 := (1, 0)) dX13_doTurn_64 fd_X13_98 t0 rfl h (fun r14 tr14 h => ?_)
  refine r_bipush (v := 113) dX13_doTurn_67 (by decide) ?_
  refine r_iload_n 2 dX13_doTurn_69 rfl ?_
  refine r_iadd dX13_doTurn_70 ?_
  refine r_dup2 dX13_doTurn_71 rfl rfl ?_
  refine q_iald dX13_doTurn_72 tr14 h (fun v15 h => ?_)
  refine r_iconst (v := 1) dX13_doTurn_73 (by decide) ?_
  refine r_iadd dX13_doTurn_74 ?_
  refine q_iast dX13_doTurn_75 tr14 h (fun τ16 h => ?_)
  obtain rfl := Option.some.inj h
  exact r_return dX13_doTurn_76 rfl hQ (Nat.le_refl _) (Nat.le_refl _)
theorem kX13_doWoo {l : Launch} {G : gg} {Γ : ly} {σ : mm} (d : Nat) (hdd : 1 ≤ d) (x0 : Nat) (x1 : Int32) (x2 : Int32) (t0 : tyOK Γ (0, 12) x0) (r : mm) (h : fX13_doWoo Γ.2 σ x0 x1 x2 = some r) : CT l G yX13_doWoo cX13_doWoo 4 (none) d 0 0 [.ref (G.2.1 x0), .int x1, .int x2] Γ σ (PP none Γ r) := by
  refine CT.ofWP (by decide) (Nat.le_of_ble_eq_true rfl) ?_
  have hQ : PP none Γ r none Γ r := PP.self
  generalize PP none Γ r = Q at hQ ⊢
  show WP l G yX13_doWoo cX13_doWoo 4 (none) d 0 0 Q 0 0 0 [(0, .ref (G.2.1 x0)), (1, .int x1), (2, .int x2)] [] Γ σ
  unfold fX13_doWoo at h
  refine r_aload_n 0 dX13_doWoo_0 rfl ?_
  refine r_iload_n 1 dX13_doWoo_1 rfl ?_
  obtain ⟨v1, ev1, h⟩ := bd0_some h
  refine q_cVI [.int x1] dX13_doWoo_2 cv_X13_252 (ci := 12) rfl rfl t0 rfl rfl (Nat.le_of_ble_eq_true rfl) (by omega) (kX13_otherOf (d - 1) (by omega) x0 x1 t0 v1 ev1) ?_
  refine r_istore_n (lv' := [(3, .int v1), (0, .ref (G.2.1 x0)), (1, .int x1), (2, .int x2)]) dX13_doWoo_5 (by decide) rfl ?_
  refine r_aload_n 1 dX13_doWoo_6 rfl ?_
  refine q_getR (e9 := (1, 0)) dX13_doWoo_7 fd_X13_98 t0 rfl h (fun r2 tr2 h => ?_)
  refine r_bipush (v := 105) dX13_doWoo_10 (by decide) ?_
  refine r_iload_n 0 dX13_doWoo_12 rfl ?_
  refine r_iadd dX13_doWoo_13 ?_
  refine r_bipush (v := 99) dX13_doWoo_14 (by decide) ?_
  refine r_aload_n 1 dX13_doWoo_16 rfl ?_
  refine q_getR (e9 := (1, 0)) dX13_doWoo_17 fd_X13_98 t0 rfl h (fun r3 tr3 h => ?_)
  refine r_bipush (v := 105) dX13_doWoo_20 (by decide) ?_
  refine r_iload_n 0 dX13_doWoo_22 rfl ?_
  refine r_iadd dX13_doWoo_23 ?_
  refine q_iald dX13_doWoo_24 tr3 h (fun v4 h => ?_)
  refine r_iload_n 3 dX13_doWoo_25 rfl ?_
  refine r_iadd dX13_doWoo_26 ?_
  obtain ⟨v5, ev5, h⟩ := bd0_some h
  refine q_cSI [.int (99 : Int32), .int (v4 + x2)] dX13_doWoo_27 cs_X13_227 rfl rfl (Nat.le_of_ble_eq_true rfl) (by omega) (kX13_least (d - 1) (by omega) (99 : Int32) (v4 + x2)  v5 ev5) ?_
  refine q_iast dX13_doWoo_30 tr2 h (fun τ6 h => ?_)
  obtain rfl := Option.some.inj h
  exact r_return dX13_doWoo_31 rfl hQ (Nat.le_refl _) (Nat.le_refl _)
theorem tX13_whyTilt_b50 {l : Launch} {G : gg} {Γ : ly} {d : Nat} {Q : Option Value → ly → mm → Prop} (hdd : 2 ≤ d) (σ : mm)  (s0 : Int32)   (r : Int32) (h : fX13_whyTilt_b50 Γ.2 σ s0 = some r) (hQ : Q (some (.int r)) Γ σ) : WP l G yX13_whyTilt cX13_whyTilt 3 (some .int) d 0 0 Q 0 0 50 [] [.int s0] Γ σ := by
  unfold fX13_whyTilt_b50 at h
  obtain rfl := Option.some.inj h
  exact r_ireturn dX13_whyTilt_50 rfl hQ (Nat.le_refl _) (Nat.le_refl _)
theorem tX13_whyTilt_b49 {l : Launch} {G : gg} {Γ : ly} {d : Nat} {Q : Option Value → ly → mm → Prop} (hdd : 2 ≤ d) (σ : mm)     (r : Int32) (h : fX13_whyTilt_b49 Γ.2 σ  = some r) (hQ : Q (some (.int r)) Γ σ) : WP l G yX13_whyTilt cX13_whyTilt 3 (some .int) d 0 0 Q 0 0 49 [] [] Γ σ := by
  unfold fX13_whyTilt_b49 at h
  refine r_iconst (v := 0) dX13_whyTilt_49 (by decide) ?_
  exact tX13_whyTilt_b50 hdd σ (0 : Int32)  _ h hQ
theorem kX13_whyTilt {l : Launch} {G : gg} {Γ : ly} {σ : mm} (d : Nat) (hdd : 2 ≤ d) (x0 : Nat) (x1 : Int32) (x2 : Int32) (t0 : tyOK Γ (0, 12) x0) (r : Int32) (h : fX13_whyTilt Γ.2 σ x0 x1 x2 = some r) : CT l G yX13_whyTilt cX13_whyTilt 3 (some .int) d 0 0 [.ref (G.2.1 x0), .int x1, .int x2] Γ σ (PP (some (.int r)) Γ σ) := by
  refine CT.ofWP (by decide) (Nat.le_of_ble_eq_true rfl) ?_
  have hQ : PP (some (.int r)) Γ σ (some (.int r)) Γ σ := PP.self
  generalize PP (some (.int r)) Γ σ = Q at hQ ⊢
  show WP l G yX13_whyTilt cX13_whyTilt 3 (some .int) d 0 0 Q 0 0 0 [(0, .ref (G.2.1 x0)), (1, .int x1), (2, .int x2)] [] Γ σ
  unfold fX13_whyTilt at h
  refine r_aload_n 0 dX13_whyTilt_0 rfl ?_
  refine r_iload_n 1 dX13_whyTilt_1 rfl ?_
  obtain ⟨v1, ev1, h⟩ := bd0_some h
  refine q_cVI [.int x1] dX13_whyTilt_2 cv_X13_261 (ci := 12) rfl rfl t0 rfl rfl (Nat.le_of_ble_eq_true rfl) (by omega) (kX13_isLapsed (d - 1) (by omega) x0 x1 t0 v1 ev1) ?_
  refine r_if_eq 12 dX13_whyTilt_5 (by decide) h (fun _ h => ?_) (fun _ h => ?_)
  · refine r_aload_n 0 dX13_whyTilt_12 rfl ?_
    refine q_getR (e9 := (1, 0)) dX13_whyTilt_13 fd_X13_98 t0 rfl h (fun r2 tr2 h => ?_)
    refine r_sipush (v := 129) dX13_whyTilt_16 (by decide) ?_
    refine r_iload_n 1 dX13_whyTilt_19 rfl ?_
    refine r_iadd dX13_whyTilt_20 ?_
    refine q_iald dX13_whyTilt_21 tr2 h (fun v3 h => ?_)
    refine r_iload_n 2 dX13_whyTilt_22 rfl ?_
    refine r_icmp_ne 30 dX13_whyTilt_23 (by decide) h (fun _ h => ?_) (fun _ h => ?_)
    · refine r_iload_n 2 dX13_whyTilt_30 rfl ?_
      refine r_iconst (v := 2) dX13_whyTilt_31 (by decide) ?_
      refine r_icmp_ne 49 dX13_whyTilt_32 (by decide) h (fun _ h => ?_) (fun _ h => ?_)
      · refine r_pick [] rfl ?_
        exact tX13_whyTilt_b49 hdd σ  _ h hQ
      · refine r_aload_n 0 dX13_whyTilt_35 rfl ?_
        refine q_getR (e9 := (1, 0)) dX13_whyTilt_36 fd_X13_98 t0 rfl h (fun r4 tr4 h => ?_)
        refine r_bipush (v := 6) dX13_whyTilt_39 (by decide) ?_
        refine q_iald dX13_whyTilt_41 tr4 h (fun v5 h => ?_)
        refine r_if_ne 49 dX13_whyTilt_42 (by decide) h (fun _ h => ?_) (fun _ h => ?_)
        · refine r_pick [] rfl ?_
          exact tX13_whyTilt_b49 hdd σ  _ h hQ
        · refine r_iconst (v := 3) dX13_whyTilt_45 (by decide) ?_
          refine r_goto 50 dX13_whyTilt_46 (by decide) ?_
          refine r_pick [] rfl ?_
          exact tX13_whyTilt_b50 hdd σ (3 : Int32)  _ h hQ
    · refine r_iconst (v := 2) dX13_whyTilt_26 (by decide) ?_
      refine r_goto 50 dX13_whyTilt_27 (by decide) ?_
      refine r_pick [] rfl ?_
      exact tX13_whyTilt_b50 hdd σ (2 : Int32)  _ h hQ
  · refine r_iconst (v := 1) dX13_whyTilt_8 (by decide) ?_
    refine r_goto 50 dX13_whyTilt_9 (by decide) ?_
    refine r_pick [] rfl ?_
    exact tX13_whyTilt_b50 hdd σ (1 : Int32)  _ h hQ
theorem tX13_whyWiden_b33 {l : Launch} {G : gg} {Γ : ly} {d : Nat} {Q : Option Value → ly → mm → Prop} (hdd : 2 ≤ d) (σ : mm)  (s0 : Int32)   (r : Int32) (h : fX13_whyWiden_b33 Γ.2 σ s0 = some r) (hQ : Q (some (.int r)) Γ σ) : WP l G yX13_whyWiden cX13_whyWiden 3 (some .int) d 0 0 Q 0 0 33 [] [.int s0] Γ σ := by
  unfold fX13_whyWiden_b33 at h
  obtain rfl := Option.some.inj h
  exact r_ireturn dX13_whyWiden_33 rfl hQ (Nat.le_refl _) (Nat.le_refl _)
theorem kX13_whyWiden {l : Launch} {G : gg} {Γ : ly} {σ : mm} (d : Nat) (hdd : 2 ≤ d) (x0 : Nat) (x1 : Int32) (x2 : Int32) (t0 : tyOK Γ (0, 12) x0) (r : Int32) (h : fX13_whyWiden Γ.2 σ x0 x1 x2 = some r) : CT l G yX13_whyWiden cX13_whyWiden 3 (some .int) d 0 0 [.ref (G.2.1 x0), .int x1, .int x2] Γ σ (PP (some (.int r)) Γ σ) := by
  refine CT.ofWP (by decide) (Nat.le_of_ble_eq_true rfl) ?_
  have hQ : PP (some (.int r)) Γ σ (some (.int r)) Γ σ := PP.self
  generalize PP (some (.int r)) Γ σ = Q at hQ ⊢
  show WP l G yX13_whyWiden cX13_whyWiden 3 (some .int) d 0 0 Q 0 0 0 [(0, .ref (G.2.1 x0)), (1, .int x1), (2, .int x2)] [] Γ σ
  unfold fX13_whyWiden at h
  refine r_aload_n 0 dX13_whyWiden_0 rfl ?_
  refine r_iload_n 1 dX13_whyWiden_1 rfl ?_
  obtain ⟨v1, ev1, h⟩ := bd0_some h
  refine q_cVI [.int x1] dX13_whyWiden_2 cv_X13_261 (ci := 12) rfl rfl t0 rfl rfl (Nat.le_of_ble_eq_true rfl) (by omega) (kX13_isLapsed (d - 1) (by omega) x0 x1 t0 v1 ev1) ?_
  refine r_if_eq 12 dX13_whyWiden_5 (by decide) h (fun _ h => ?_) (fun _ h => ?_)
  · refine r_aload_n 0 dX13_whyWiden_12 rfl ?_
    refine q_getR (e9 := (1, 0)) dX13_whyWiden_13 fd_X13_98 t0 rfl h (fun r2 tr2 h => ?_)
    refine r_bipush (v := 121) dX13_whyWiden_16 (by decide) ?_
    refine r_iload_n 1 dX13_whyWiden_18 rfl ?_
    refine r_iadd dX13_whyWiden_19 ?_
    refine q_iald dX13_whyWiden_20 tr2 h (fun v3 h => ?_)
    refine r_iload_n 2 dX13_whyWiden_21 rfl ?_
    refine r_iadd dX13_whyWiden_22 ?_
    refine r_bipush (v := 9) dX13_whyWiden_23 (by decide) ?_
    refine r_icmp_le 32 dX13_whyWiden_25 (by decide) h (fun _ h => ?_) (fun _ h => ?_)
    · refine r_iconst (v := 0) dX13_whyWiden_32 (by decide) ?_
      refine r_pick [] rfl ?_
      exact tX13_whyWiden_b33 hdd σ (0 : Int32)  _ h hQ
    · refine r_iconst (v := 2) dX13_whyWiden_28 (by decide) ?_
      refine r_goto 33 dX13_whyWiden_29 (by decide) ?_
      refine r_pick [] rfl ?_
      exact tX13_whyWiden_b33 hdd σ (2 : Int32)  _ h hQ
  · refine r_iconst (v := 1) dX13_whyWiden_8 (by decide) ?_
    refine r_goto 33 dX13_whyWiden_9 (by decide) ?_
    refine r_pick [] rfl ?_
    exact tX13_whyWiden_b33 hdd σ (1 : Int32)  _ h hQ
theorem tX13_whySpill_b30 {l : Launch} {G : gg} {Γ : ly} {d : Nat} {Q : Option Value → ly → mm → Prop} (hdd : 2 ≤ d) (σ : mm)  (s0 : Int32)   (r : Int32) (h : fX13_whySpill_b30 Γ.2 σ s0 = some r) (hQ : Q (some (.int r)) Γ σ) : WP l G yX13_whySpill cX13_whySpill 3 (some .int) d 0 0 Q 0 0 30 [] [.int s0] Γ σ := by
  unfold fX13_whySpill_b30 at h
  obtain rfl := Option.some.inj h
  exact r_ireturn dX13_whySpill_30 rfl hQ (Nat.le_refl _) (Nat.le_refl _)
theorem kX13_whySpill {l : Launch} {G : gg} {Γ : ly} {σ : mm} (d : Nat) (hdd : 2 ≤ d) (x0 : Nat) (x1 : Int32) (x2 : Int32) (t0 : tyOK Γ (0, 12) x0) (r : Int32) (h : fX13_whySpill Γ.2 σ x0 x1 x2 = some r) : CT l G yX13_whySpill cX13_whySpill 3 (some .int) d 0 0 [.ref (G.2.1 x0), .int x1, .int x2] Γ σ (PP (some (.int r)) Γ σ) := by
  refine CT.ofWP (by decide) (Nat.le_of_ble_eq_true rfl) ?_
  have hQ : PP (some (.int r)) Γ σ (some (.int r)) Γ σ := PP.self
  generalize PP (some (.int r)) Γ σ = Q at hQ ⊢
  show WP l G yX13_whySpill cX13_whySpill 3 (some .int) d 0 0 Q 0 0 0 [(0, .ref (G.2.1 x0)), (1, .int x1), (2, .int x2)] [] Γ σ
  unfold fX13_whySpill at h
  refine r_aload_n 0 dX13_whySpill_0 rfl ?_
  refine r_iload_n 1 dX13_whySpill_1 rfl ?_
  obtain ⟨v1, ev1, h⟩ := bd0_some h
  refine q_cVI [.int x1] dX13_whySpill_2 cv_X13_261 (ci := 12) rfl rfl t0 rfl rfl (Nat.le_of_ble_eq_true rfl) (by omega) (kX13_isLapsed (d - 1) (by omega) x0 x1 t0 v1 ev1) ?_
  refine r_if_eq 12 dX13_whySpill_5 (by decide) h (fun _ h => ?_) (fun _ h => ?_)
  · refine r_aload_n 0 dX13_whySpill_12 rfl ?_
    refine q_getR (e9 := (1, 0)) dX13_whySpill_13 fd_X13_98 t0 rfl h (fun r2 tr2 h => ?_)
    refine r_bipush (v := 125) dX13_whySpill_16 (by decide) ?_
    refine r_iload_n 1 dX13_whySpill_18 rfl ?_
    refine r_iadd dX13_whySpill_19 ?_
    refine q_iald dX13_whySpill_20 tr2 h (fun v3 h => ?_)
    refine r_iload_n 2 dX13_whySpill_21 rfl ?_
    refine r_icmp_ge 29 dX13_whySpill_22 (by decide) h (fun _ h => ?_) (fun _ h => ?_)
    · refine r_iconst (v := 0) dX13_whySpill_29 (by decide) ?_
      refine r_pick [] rfl ?_
      exact tX13_whySpill_b30 hdd σ (0 : Int32)  _ h hQ
    · refine r_iconst (v := 2) dX13_whySpill_25 (by decide) ?_
      refine r_goto 30 dX13_whySpill_26 (by decide) ?_
      refine r_pick [] rfl ?_
      exact tX13_whySpill_b30 hdd σ (2 : Int32)  _ h hQ
  · refine r_iconst (v := 1) dX13_whySpill_8 (by decide) ?_
    refine r_goto 30 dX13_whySpill_9 (by decide) ?_
    refine r_pick [] rfl ?_
    exact tX13_whySpill_b30 hdd σ (1 : Int32)  _ h hQ
theorem tX13_why_b62 {l : Launch} {G : gg} {Γ : ly} {d : Nat} {Q : Option Value → ly → mm → Prop} (hdd : 4 ≤ d) (σ : mm)  (s0 : Int32)   (r : Int32) (h : fX13_why_b62 Γ.2 σ s0 = some r) (hQ : Q (some (.int r)) Γ σ) : WP l G yX13_why cX13_why 4 (some .int) d 0 0 Q 0 0 62 [] [.int s0] Γ σ := by
  unfold fX13_why_b62 at h
  obtain rfl := Option.some.inj h
  exact r_ireturn dX13_why_62 rfl hQ (Nat.le_refl _) (Nat.le_refl _)
theorem kX13_why {l : Launch} {G : gg} {Γ : ly} {σ : mm} (d : Nat) (hdd : 4 ≤ d) (x0 : Nat) (x1 : Int32) (x2 : Int32) (x3 : Int32) (t0 : tyOK Γ (0, 12) x0) (r : Int32) (h : fX13_why Γ.2 σ x0 x1 x2 x3 = some r) : CT l G yX13_why cX13_why 4 (some .int) d 0 0 [.ref (G.2.1 x0), .int x1, .int x2, .int x3] Γ σ (PP (some (.int r)) Γ σ) := by
  refine CT.ofWP (by decide) (Nat.le_of_ble_eq_true rfl) ?_
  have hQ : PP (some (.int r)) Γ σ (some (.int r)) Γ σ := PP.self
  generalize PP (some (.int r)) Γ σ = Q at hQ ⊢
  show WP l G yX13_why cX13_why 4 (some .int) d 0 0 Q 0 0 0 [(0, .ref (G.2.1 x0)), (1, .int x1), (2, .int x2), (3, .int x3)] [] Γ σ
  unfold fX13_why at h
  refine r_iload_n 1 dX13_why_0 rfl ?_
  rcases if_split h with ⟨q9, h⟩ | ⟨n0, h⟩
  · refine r_table (0 : Int32) 35 36 dX13_why_1 q9 (by decide) (by decide) rfl (by decide) ?_
    refine r_aload_n 0 dX13_why_36 rfl ?_
    refine r_iload_n 2 dX13_why_37 rfl ?_
    obtain ⟨v1, ev1, h⟩ := bd0_some h
    refine q_cVI [.int x2] dX13_why_38 cv_X13_270 (ci := 12) rfl rfl t0 rfl rfl (Nat.le_of_ble_eq_true rfl) (by omega) (kX13_whyTurn (d - 1) (by omega) x0 x2 t0 v1 ev1) ?_
    obtain rfl := Option.some.inj h
    exact r_ireturn dX13_why_41 rfl hQ (Nat.le_refl _) (Nat.le_refl _)
  rcases if_split h with ⟨q9, h⟩ | ⟨n1, h⟩
  · refine r_table (1 : Int32) 41 42 dX13_why_1 q9 (by decide) (by decide) rfl (by decide) ?_
    refine r_aload_n 0 dX13_why_42 rfl ?_
    refine r_iload_n 2 dX13_why_43 rfl ?_
    refine r_aload_n 0 dX13_why_44 rfl ?_
    refine q_getR (e9 := (1, 0)) dX13_why_45 fd_X13_98 t0 rfl h (fun r2 tr2 h => ?_)
    refine r_bipush (v := 102) dX13_why_48 (by decide) ?_
    refine q_iald dX13_why_50 tr2 h (fun v3 h => ?_)
    obtain ⟨v4, ev4, h⟩ := bd0_some h
    refine q_cVI [.int x2, .int v3] dX13_why_51 cv_X13_234 (ci := 12) rfl rfl t0 rfl rfl (Nat.le_of_ble_eq_true rfl) (by omega) (kX13_isAwake (d - 1) (by omega) x0 x2 v3 t0 v4 ev4) ?_
    refine r_if_eq 61 dX13_why_54 (by decide) h (fun _ h => ?_) (fun _ h => ?_)
    · refine r_iconst (v := 0) dX13_why_61 (by decide) ?_
      refine r_pick [] rfl ?_
      exact tX13_why_b62 hdd σ (0 : Int32)  _ h hQ
    · refine r_iconst (v := 1) dX13_why_57 (by decide) ?_
      refine r_goto 62 dX13_why_58 (by decide) ?_
      refine r_pick [] rfl ?_
      exact tX13_why_b62 hdd σ (1 : Int32)  _ h hQ
  rcases if_split h with ⟨q9, h⟩ | ⟨n2, h⟩
  · refine r_table (2 : Int32) 62 63 dX13_why_1 q9 (by decide) (by decide) rfl (by decide) ?_
    refine r_aload_n 0 dX13_why_63 rfl ?_
    refine r_iload_n 2 dX13_why_64 rfl ?_
    obtain ⟨v5, ev5, h⟩ := bd0_some h
    refine q_cVI [.int x2] dX13_why_65 cv_X13_267 (ci := 12) rfl rfl t0 rfl rfl (Nat.le_of_ble_eq_true rfl) (by omega) (kX13_whyWed (d - 1) (by omega) x0 x2 t0 v5 ev5) ?_
    obtain rfl := Option.some.inj h
    exact r_ireturn dX13_why_68 rfl hQ (Nat.le_refl _) (Nat.le_refl _)
  rcases if_split h with ⟨q9, h⟩ | ⟨n3, h⟩
  · refine r_table (3 : Int32) 68 69 dX13_why_1 q9 (by decide) (by decide) rfl (by decide) ?_
    refine r_aload_n 0 dX13_why_69 rfl ?_
    refine r_iload_n 2 dX13_why_70 rfl ?_
    refine r_iload_n 3 dX13_why_71 rfl ?_
    obtain ⟨v6, ev6, h⟩ := bd0_some h
    refine q_cVI [.int x2, .int x3] dX13_why_72 cv_X13_273 (ci := 12) rfl rfl t0 rfl rfl (Nat.le_of_ble_eq_true rfl) (by omega) (kX13_whyTilt (d - 1) (by omega) x0 x2 x3 t0 v6 ev6) ?_
    obtain rfl := Option.some.inj h
    exact r_ireturn dX13_why_75 rfl hQ (Nat.le_refl _) (Nat.le_refl _)
  rcases if_split h with ⟨q9, h⟩ | ⟨n4, h⟩
  · refine r_table (4 : Int32) 75 76 dX13_why_1 q9 (by decide) (by decide) rfl (by decide) ?_
    refine r_aload_n 0 dX13_why_76 rfl ?_
    refine r_iload_n 2 dX13_why_77 rfl ?_
    refine r_iload_n 3 dX13_why_78 rfl ?_
    obtain ⟨v7, ev7, h⟩ := bd0_some h
    refine q_cVI [.int x2, .int x3] dX13_why_79 cv_X13_276 (ci := 12) rfl rfl t0 rfl rfl (Nat.le_of_ble_eq_true rfl) (by omega) (kX13_whyWiden (d - 1) (by omega) x0 x2 x3 t0 v7 ev7) ?_
    obtain rfl := Option.some.inj h
    exact r_ireturn dX13_why_82 rfl hQ (Nat.le_refl _) (Nat.le_refl _)
  have n0 := ne_int n0 (z := 0) rfl
  have n1 := ne_int n1 (z := 1) rfl
  have n2 := ne_int n2 (z := 2) rfl
  have n3 := ne_int n3 (z := 3) rfl
  have n4 := ne_int n4 (z := 4) rfl
  refine r_tableD 83 dX13_why_1 (by omega) (by decide) ?_
  refine r_aload_n 0 dX13_why_83 rfl ?_
  refine r_iload_n 2 dX13_why_84 rfl ?_
  refine r_iload_n 3 dX13_why_85 rfl ?_
  obtain ⟨v8, ev8, h⟩ := bd0_some h
  refine q_cVI [.int x2, .int x3] dX13_why_86 cv_X13_279 (ci := 12) rfl rfl t0 rfl rfl (Nat.le_of_ble_eq_true rfl) (by omega) (kX13_whySpill (d - 1) (by omega) x0 x2 x3 t0 v8 ev8) ?_
  obtain rfl := Option.some.inj h
  exact r_ireturn dX13_why_89 rfl hQ (Nat.le_refl _) (Nat.le_refl _)
theorem kX13_live {l : Launch} {G : gg} {Γ : ly} {σ : mm} (d : Nat) (hdd : 2 ≤ d) (x0 : Nat) (x1 : Int32) (x2 : Int32) (x3 : Int32) (t0 : tyOK Γ (0, 12) x0) (r : mm) (h : fX13_live Γ.2 σ x0 x1 x2 x3 = some r) : CT l G yX13_live cX13_live 4 (none) d 0 0 [.ref (G.2.1 x0), .int x1, .int x2, .int x3] Γ σ (PP none Γ r) := by
  refine CT.ofWP (by decide) (Nat.le_of_ble_eq_true rfl) ?_
  have hQ : PP none Γ r none Γ r := PP.self
  generalize PP none Γ r = Q at hQ ⊢
  show WP l G yX13_live cX13_live 4 (none) d 0 0 Q 0 0 0 [(0, .ref (G.2.1 x0)), (1, .int x1), (2, .int x2), (3, .int x3)] [] Γ σ
  unfold fX13_live at h
  refine r_iload_n 1 dX13_live_0 rfl ?_
  rcases if_split h with ⟨q9, h⟩ | ⟨n0, h⟩
  · refine r_table (0 : Int32) 35 36 dX13_live_1 q9 (by decide) (by decide) rfl (by decide) ?_
    refine r_aload_n 0 dX13_live_36 rfl ?_
    refine r_iload_n 2 dX13_live_37 rfl ?_
    obtain ⟨τ1, eτ1, h⟩ := bd0_some h
    refine q_cVV [.int x2] dX13_live_38 cv_X13_282 (ci := 12) rfl rfl t0 rfl rfl (Nat.le_of_ble_eq_true rfl) (by omega) (kX13_doTurn (d - 1) (by omega) x0 x2 t0 τ1 eτ1) ?_
    obtain rfl := Option.some.inj h
    exact r_return dX13_live_41 rfl hQ (Nat.le_refl _) (Nat.le_refl _)
  rcases if_split h with ⟨q9, h⟩ | ⟨n1, h⟩
  · refine r_table (1 : Int32) 41 42 dX13_live_1 q9 (by decide) (by decide) rfl (by decide) ?_
    refine r_aload_n 0 dX13_live_42 rfl ?_
    refine q_getR (e9 := (1, 0)) dX13_live_43 fd_X13_98 t0 rfl h (fun r2 tr2 h => ?_)
    refine r_bipush (v := 103) dX13_live_46 (by decide) ?_
    refine r_dup2 dX13_live_48 rfl rfl ?_
    refine q_iald dX13_live_49 tr2 h (fun v3 h => ?_)
    refine r_iconst (v := 1) dX13_live_50 (by decide) ?_
    refine r_iload_n 2 dX13_live_51 rfl ?_
    refine r_ishl dX13_live_52 ?_
    refine r_ior dX13_live_53 ?_
    refine q_iast dX13_live_54 tr2 h (fun τ4 h => ?_)
    obtain rfl := Option.some.inj h
    exact r_return dX13_live_55 rfl hQ (Nat.le_refl _) (Nat.le_refl _)
  rcases if_split h with ⟨q9, h⟩ | ⟨n2, h⟩
  · refine r_table (2 : Int32) 55 56 dX13_live_1 q9 (by decide) (by decide) rfl (by decide) ?_
    refine r_aload_n 0 dX13_live_56 rfl ?_
    refine r_iload_n 2 dX13_live_57 rfl ?_
    refine r_iload_n 3 dX13_live_58 rfl ?_
    obtain ⟨τ5, eτ5, h⟩ := bd0_some h
    refine q_cVV [.int x2, .int x3] dX13_live_59 cv_X13_285 (ci := 12) rfl rfl t0 rfl rfl (Nat.le_of_ble_eq_true rfl) (by omega) (kX13_doWoo (d - 1) (by omega) x0 x2 x3 t0 τ5 eτ5) ?_
    obtain rfl := Option.some.inj h
    exact r_return dX13_live_62 rfl hQ (Nat.le_refl _) (Nat.le_refl _)
  rcases if_split h with ⟨q9, h⟩ | ⟨n3, h⟩
  · refine r_table (3 : Int32) 62 63 dX13_live_1 q9 (by decide) (by decide) rfl (by decide) ?_
    refine r_aload_n 0 dX13_live_63 rfl ?_
    refine q_getR (e9 := (1, 0)) dX13_live_64 fd_X13_98 t0 rfl h (fun r6 tr6 h => ?_)
    refine r_sipush (v := 129) dX13_live_67 (by decide) ?_
    refine r_iload_n 2 dX13_live_70 rfl ?_
    refine r_iadd dX13_live_71 ?_
    refine r_iload_n 3 dX13_live_72 rfl ?_
    refine q_iast dX13_live_73 tr6 h (fun τ7 h => ?_)
    obtain rfl := Option.some.inj h
    exact r_return dX13_live_74 rfl hQ (Nat.le_refl _) (Nat.le_refl _)
  rcases if_split h with ⟨q9, h⟩ | ⟨n4, h⟩
  · refine r_table (4 : Int32) 74 75 dX13_live_1 q9 (by decide) (by decide) rfl (by decide) ?_
    refine r_aload_n 0 dX13_live_75 rfl ?_
    refine q_getR (e9 := (1, 0)) dX13_live_76 fd_X13_98 t0 rfl h (fun r8 tr8 h => ?_)
    refine r_bipush (v := 121) dX13_live_79 (by decide) ?_
    refine r_iload_n 2 dX13_live_81 rfl ?_
    refine r_iadd dX13_live_82 ?_
    refine r_dup2 dX13_live_83 rfl rfl ?_
    refine q_iald dX13_live_84 tr8 h (fun v9 h => ?_)
    refine r_iload_n 3 dX13_live_85 rfl ?_
    refine r_iadd dX13_live_86 ?_
    refine q_iast dX13_live_87 tr8 h (fun τ10 h => ?_)
    obtain rfl := Option.some.inj h
    exact r_return dX13_live_88 rfl hQ (Nat.le_refl _) (Nat.le_refl _)
  have n0 := ne_int n0 (z := 0) rfl
  have n1 := ne_int n1 (z := 1) rfl
  have n2 := ne_int n2 (z := 2) rfl
  have n3 := ne_int n3 (z := 3) rfl
  have n4 := ne_int n4 (z := 4) rfl
  refine r_tableD 89 dX13_live_1 (by omega) (by decide) ?_
  refine r_aload_n 0 dX13_live_89 rfl ?_
  refine q_getR (e9 := (1, 0)) dX13_live_90 fd_X13_98 t0 rfl h (fun r11 tr11 h => ?_)
  refine r_bipush (v := 125) dX13_live_93 (by decide) ?_
  refine r_iload_n 2 dX13_live_95 rfl ?_
  refine r_iadd dX13_live_96 ?_
  refine r_dup2 dX13_live_97 rfl rfl ?_
  refine q_iald dX13_live_98 tr11 h (fun v12 h => ?_)
  refine r_iload_n 3 dX13_live_99 rfl ?_
  refine r_isub dX13_live_100 ?_
  refine q_iast dX13_live_101 tr11 h (fun τ13 h => ?_)
  obtain rfl := Option.some.inj h
  exact r_return dX13_live_102 rfl hQ (Nat.le_refl _) (Nat.le_refl _)
theorem kX13_act {l : Launch} {G : gg} {Γ : ly} {σ : mm} (d : Nat) (hdd : 5 ≤ d) (x0 : Nat) (x1 : Int32) (x2 : Int32) (x3 : Int32) (t0 : tyOK Γ (0, 12) x0) (r : (Int32 × mm)) (h : fX13_act Γ.2 σ x0 x1 x2 x3 = some r) : CT l G yX13_act cX13_act 5 (some .int) d 0 0 [.ref (G.2.1 x0), .int x1, .int x2, .int x3] Γ σ (PP (some (.int r.1)) Γ r.2) := by
  refine CT.ofWP (by decide) (Nat.le_of_ble_eq_true rfl) ?_
  have hQ : PP (some (.int r.1)) Γ r.2 (some (.int r.1)) Γ r.2 := PP.self
  generalize PP (some (.int r.1)) Γ r.2 = Q at hQ ⊢
  show WP l G yX13_act cX13_act 5 (some .int) d 0 0 Q 0 0 0 [(0, .ref (G.2.1 x0)), (1, .int x1), (2, .int x2), (3, .int x3)] [] Γ σ
  unfold fX13_act at h
  refine r_aload_n 0 dX13_act_0 rfl ?_
  refine r_iload_n 1 dX13_act_1 rfl ?_
  refine r_iload_n 2 dX13_act_2 rfl ?_
  refine r_iload_n 3 dX13_act_3 rfl ?_
  obtain ⟨v1, ev1, h⟩ := bd0_some h
  refine q_cVI [.int x1, .int x2, .int x3] dX13_act_4 cv_X13_289 (ci := 12) rfl rfl t0 rfl rfl (Nat.le_of_ble_eq_true rfl) (by omega) (kX13_why (d - 1) (by omega) x0 x1 x2 x3 t0 v1 ev1) ?_
  refine r_istore (lv' := [(4, .int v1), (0, .ref (G.2.1 x0)), (1, .int x1), (2, .int x2), (3, .int x3)]) dX13_act_7 (by decide) rfl ?_
  refine r_iload 0 dX13_act_9 rfl ?_
  refine r_if_eq 17 dX13_act_11 (by decide) h (fun _ h => ?_) (fun _ h => ?_)
  · refine r_aload_n 1 dX13_act_17 rfl ?_
    obtain ⟨τ2, eτ2, h⟩ := bd0_some h
    refine q_cVV [] dX13_act_18 cv_X13_293 (ci := 12) rfl rfl t0 rfl rfl (Nat.le_of_ble_eq_true rfl) (by omega) (kX13_snap (d - 1) (by omega) x0 t0 τ2 eτ2) ?_
    refine r_aload_n 1 dX13_act_21 rfl ?_
    refine r_iload_n 2 dX13_act_22 rfl ?_
    refine r_iload_n 3 dX13_act_23 rfl ?_
    refine r_iload_n 4 dX13_act_24 rfl ?_
    obtain ⟨τ3, eτ3, h⟩ := bd0_some h
    refine q_cVV [.int x1, .int x2, .int x3] dX13_act_25 cv_X13_296 (ci := 12) rfl rfl t0 rfl rfl (Nat.le_of_ble_eq_true rfl) (by omega) (kX13_live (d - 1) (by omega) x0 x1 x2 x3 t0 τ3 eτ3) ?_
    refine r_iconst (v := 0) dX13_act_28 (by decide) ?_
    obtain rfl := Option.some.inj h
    exact r_ireturn dX13_act_29 rfl hQ (Nat.le_refl _) (Nat.le_refl _)
  · refine r_iload 0 dX13_act_14 rfl ?_
    obtain rfl := Option.some.inj h
    exact r_ireturn dX13_act_16 rfl hQ (Nat.le_refl _) (Nat.le_refl _)
theorem tX13_turn_b24 {l : Launch} {G : gg} {Γ : ly} {d : Nat} {Q : Option Value → ly → mm → Prop} (hdd : 6 ≤ d) (σ : mm)  (s0 : Int32)   (r : (Int32 × mm)) (h : fX13_turn_b24 Γ.2 σ s0 = some r) (hQ : Q (some (.int r.1)) Γ r.2) : WP l G yX13_turn cX13_turn 2 (some .int) d 0 0 Q 0 0 24 [] [.int s0] Γ σ := by
  unfold fX13_turn_b24 at h
  obtain rfl := Option.some.inj h
  exact r_ireturn dX13_turn_24 rfl hQ (Nat.le_refl _) (Nat.le_refl _)
theorem kX13_turn {l : Launch} {G : gg} {Γ : ly} {σ : mm} (d : Nat) (hdd : 6 ≤ d) (x0 : Nat) (x1 : Int32) (t0 : tyOK Γ (0, 12) x0) (r : (Int32 × mm)) (h : fX13_turn Γ.2 σ x0 x1 = some r) : CT l G yX13_turn cX13_turn 2 (some .int) d 0 0 [.ref (G.2.1 x0), .int x1] Γ σ (PP (some (.int r.1)) Γ r.2) := by
  refine CT.ofWP (by decide) (Nat.le_of_ble_eq_true rfl) ?_
  have hQ : PP (some (.int r.1)) Γ r.2 (some (.int r.1)) Γ r.2 := PP.self
  generalize PP (some (.int r.1)) Γ r.2 = Q at hQ ⊢
  show WP l G yX13_turn cX13_turn 2 (some .int) d 0 0 Q 0 0 0 [(0, .ref (G.2.1 x0)), (1, .int x1)] [] Γ σ
  unfold fX13_turn at h
  refine r_aload_n 0 dX13_turn_0 rfl ?_
  refine r_iconst (v := 0) dX13_turn_1 (by decide) ?_
  refine q_putI dX13_turn_2 fd_X13_1 t0 h (fun τ1 h => ?_)
  refine r_aload_n 0 dX13_turn_5 rfl ?_
  refine r_iload_n 1 dX13_turn_6 rfl ?_
  obtain ⟨v2, ev2, h⟩ := bd0_some h
  refine q_cVI [.int x1] dX13_turn_7 cv_X13_246 (ci := 12) rfl rfl t0 rfl rfl (Nat.le_of_ble_eq_true rfl) (by omega) (kX13_isPerson (d - 1) (by omega) x0 x1 t0 v2 ev2) ?_
  refine r_if_eq 23 dX13_turn_10 (by decide) h (fun _ h => ?_) (fun _ h => ?_)
  · refine r_iconst (v := -1) dX13_turn_23 (by decide) ?_
    refine r_pick [] rfl ?_
    exact tX13_turn_b24 hdd τ1 (-1 : Int32)  _ h hQ
  · refine r_aload_n 0 dX13_turn_13 rfl ?_
    refine r_iconst (v := 0) dX13_turn_14 (by decide) ?_
    refine r_iload_n 1 dX13_turn_15 rfl ?_
    refine r_iconst (v := 0) dX13_turn_16 (by decide) ?_
    obtain ⟨v3, τ4, ev3, h⟩ := bd2_some h
    refine q_cVI [.int (0 : Int32), .int x1, .int (0 : Int32)] dX13_turn_17 cv_X13_300 (ci := 12) rfl rfl t0 rfl rfl (Nat.le_of_ble_eq_true rfl) (by omega) (kX13_act (d - 1) (by omega) x0 (0 : Int32) x1 (0 : Int32) t0 (v3, τ4) ev3) ?_
    refine r_goto 24 dX13_turn_20 (by decide) ?_
    refine r_pick [] rfl ?_
    exact tX13_turn_b24 hdd τ4 v3  _ h hQ
theorem tX13_wake_b24 {l : Launch} {G : gg} {Γ : ly} {d : Nat} {Q : Option Value → ly → mm → Prop} (hdd : 6 ≤ d) (σ : mm)  (s0 : Int32)   (r : (Int32 × mm)) (h : fX13_wake_b24 Γ.2 σ s0 = some r) (hQ : Q (some (.int r.1)) Γ r.2) : WP l G yX13_wake cX13_wake 2 (some .int) d 0 0 Q 0 0 24 [] [.int s0] Γ σ := by
  unfold fX13_wake_b24 at h
  obtain rfl := Option.some.inj h
  exact r_ireturn dX13_wake_24 rfl hQ (Nat.le_refl _) (Nat.le_refl _)
theorem kX13_wake {l : Launch} {G : gg} {Γ : ly} {σ : mm} (d : Nat) (hdd : 6 ≤ d) (x0 : Nat) (x1 : Int32) (t0 : tyOK Γ (0, 12) x0) (r : (Int32 × mm)) (h : fX13_wake Γ.2 σ x0 x1 = some r) : CT l G yX13_wake cX13_wake 2 (some .int) d 0 0 [.ref (G.2.1 x0), .int x1] Γ σ (PP (some (.int r.1)) Γ r.2) := by
  refine CT.ofWP (by decide) (Nat.le_of_ble_eq_true rfl) ?_
  have hQ : PP (some (.int r.1)) Γ r.2 (some (.int r.1)) Γ r.2 := PP.self
  generalize PP (some (.int r.1)) Γ r.2 = Q at hQ ⊢
  show WP l G yX13_wake cX13_wake 2 (some .int) d 0 0 Q 0 0 0 [(0, .ref (G.2.1 x0)), (1, .int x1)] [] Γ σ
  unfold fX13_wake at h
  refine r_aload_n 0 dX13_wake_0 rfl ?_
  refine r_iconst (v := 0) dX13_wake_1 (by decide) ?_
  refine q_putI dX13_wake_2 fd_X13_1 t0 h (fun τ1 h => ?_)
  refine r_aload_n 0 dX13_wake_5 rfl ?_
  refine r_iload_n 1 dX13_wake_6 rfl ?_
  obtain ⟨v2, ev2, h⟩ := bd0_some h
  refine q_cVI [.int x1] dX13_wake_7 cv_X13_246 (ci := 12) rfl rfl t0 rfl rfl (Nat.le_of_ble_eq_true rfl) (by omega) (kX13_isPerson (d - 1) (by omega) x0 x1 t0 v2 ev2) ?_
  refine r_if_eq 23 dX13_wake_10 (by decide) h (fun _ h => ?_) (fun _ h => ?_)
  · refine r_iconst (v := -1) dX13_wake_23 (by decide) ?_
    refine r_pick [] rfl ?_
    exact tX13_wake_b24 hdd τ1 (-1 : Int32)  _ h hQ
  · refine r_aload_n 0 dX13_wake_13 rfl ?_
    refine r_iconst (v := 1) dX13_wake_14 (by decide) ?_
    refine r_iload_n 1 dX13_wake_15 rfl ?_
    refine r_iconst (v := 0) dX13_wake_16 (by decide) ?_
    obtain ⟨v3, τ4, ev3, h⟩ := bd2_some h
    refine q_cVI [.int (1 : Int32), .int x1, .int (0 : Int32)] dX13_wake_17 cv_X13_300 (ci := 12) rfl rfl t0 rfl rfl (Nat.le_of_ble_eq_true rfl) (by omega) (kX13_act (d - 1) (by omega) x0 (1 : Int32) x1 (0 : Int32) t0 (v3, τ4) ev3) ?_
    refine r_goto 24 dX13_wake_20 (by decide) ?_
    refine r_pick [] rfl ?_
    exact tX13_wake_b24 hdd τ4 v3  _ h hQ
theorem tX13_woo_b34 {l : Launch} {G : gg} {Γ : ly} {d : Nat} {Q : Option Value → ly → mm → Prop} (hdd : 6 ≤ d) (σ : mm)  (s0 : Int32)   (r : (Int32 × mm)) (h : fX13_woo_b34 Γ.2 σ s0 = some r) (hQ : Q (some (.int r.1)) Γ r.2) : WP l G yX13_woo cX13_woo 3 (some .int) d 0 0 Q 0 0 34 [] [.int s0] Γ σ := by
  unfold fX13_woo_b34 at h
  obtain rfl := Option.some.inj h
  exact r_ireturn dX13_woo_34 rfl hQ (Nat.le_refl _) (Nat.le_refl _)
theorem tX13_woo_b33 {l : Launch} {G : gg} {Γ : ly} {d : Nat} {Q : Option Value → ly → mm → Prop} (hdd : 6 ≤ d) (σ : mm)     (r : (Int32 × mm)) (h : fX13_woo_b33 Γ.2 σ  = some r) (hQ : Q (some (.int r.1)) Γ r.2) : WP l G yX13_woo cX13_woo 3 (some .int) d 0 0 Q 0 0 33 [] [] Γ σ := by
  unfold fX13_woo_b33 at h
  refine r_iconst (v := -1) dX13_woo_33 (by decide) ?_
  exact tX13_woo_b34 hdd σ (-1 : Int32)  _ h hQ
theorem kX13_woo {l : Launch} {G : gg} {Γ : ly} {σ : mm} (d : Nat) (hdd : 6 ≤ d) (x0 : Nat) (x1 : Int32) (x2 : Int32) (t0 : tyOK Γ (0, 12) x0) (r : (Int32 × mm)) (h : fX13_woo Γ.2 σ x0 x1 x2 = some r) : CT l G yX13_woo cX13_woo 3 (some .int) d 0 0 [.ref (G.2.1 x0), .int x1, .int x2] Γ σ (PP (some (.int r.1)) Γ r.2) := by
  refine CT.ofWP (by decide) (Nat.le_of_ble_eq_true rfl) ?_
  have hQ : PP (some (.int r.1)) Γ r.2 (some (.int r.1)) Γ r.2 := PP.self
  generalize PP (some (.int r.1)) Γ r.2 = Q at hQ ⊢
  show WP l G yX13_woo cX13_woo 3 (some .int) d 0 0 Q 0 0 0 [(0, .ref (G.2.1 x0)), (1, .int x1), (2, .int x2)] [] Γ σ
  unfold fX13_woo at h
  refine r_aload_n 0 dX13_woo_0 rfl ?_
  refine r_iconst (v := 0) dX13_woo_1 (by decide) ?_
  refine q_putI dX13_woo_2 fd_X13_1 t0 h (fun τ1 h => ?_)
  refine r_aload_n 0 dX13_woo_5 rfl ?_
  refine r_iload_n 1 dX13_woo_6 rfl ?_
  obtain ⟨v2, ev2, h⟩ := bd0_some h
  refine q_cVI [.int x1] dX13_woo_7 cv_X13_246 (ci := 12) rfl rfl t0 rfl rfl (Nat.le_of_ble_eq_true rfl) (by omega) (kX13_isPerson (d - 1) (by omega) x0 x1 t0 v2 ev2) ?_
  refine r_if_eq 33 dX13_woo_10 (by decide) h (fun _ h => ?_) (fun _ h => ?_)
  · refine r_pick [] rfl ?_
    exact tX13_woo_b33 hdd τ1  _ h hQ
  · refine r_iload_n 2 dX13_woo_13 rfl ?_
    refine r_iconst (v := 1) dX13_woo_14 (by decide) ?_
    refine r_bipush (v := 20) dX13_woo_15 (by decide) ?_
    obtain ⟨v3, ev3, h⟩ := bd0_some h
    refine q_cSI [.int x2, .int (1 : Int32), .int (20 : Int32)] dX13_woo_17 cs_X13_75 rfl rfl (Nat.le_of_ble_eq_true rfl) (by omega) (kX13_isIn (d - 1) (by omega) x2 (1 : Int32) (20 : Int32)  v3 ev3) ?_
    refine r_if_eq 33 dX13_woo_20 (by decide) h (fun _ h => ?_) (fun _ h => ?_)
    · refine r_pick [] rfl ?_
      exact tX13_woo_b33 hdd τ1  _ h hQ
    · refine r_aload_n 0 dX13_woo_23 rfl ?_
      refine r_iconst (v := 2) dX13_woo_24 (by decide) ?_
      refine r_iload_n 1 dX13_woo_25 rfl ?_
      refine r_iload_n 2 dX13_woo_26 rfl ?_
      obtain ⟨v4, τ5, ev4, h⟩ := bd2_some h
      refine q_cVI [.int (2 : Int32), .int x1, .int x2] dX13_woo_27 cv_X13_300 (ci := 12) rfl rfl t0 rfl rfl (Nat.le_of_ble_eq_true rfl) (by omega) (kX13_act (d - 1) (by omega) x0 (2 : Int32) x1 x2 t0 (v4, τ5) ev4) ?_
      refine r_goto 34 dX13_woo_30 (by decide) ?_
      refine r_pick [] rfl ?_
      exact tX13_woo_b34 hdd τ5 v4  _ h hQ
theorem tX13_tilt_b33 {l : Launch} {G : gg} {Γ : ly} {d : Nat} {Q : Option Value → ly → mm → Prop} (hdd : 6 ≤ d) (σ : mm)  (s0 : Int32)   (r : (Int32 × mm)) (h : fX13_tilt_b33 Γ.2 σ s0 = some r) (hQ : Q (some (.int r.1)) Γ r.2) : WP l G yX13_tilt cX13_tilt 3 (some .int) d 0 0 Q 0 0 33 [] [.int s0] Γ σ := by
  unfold fX13_tilt_b33 at h
  obtain rfl := Option.some.inj h
  exact r_ireturn dX13_tilt_33 rfl hQ (Nat.le_refl _) (Nat.le_refl _)
theorem tX13_tilt_b32 {l : Launch} {G : gg} {Γ : ly} {d : Nat} {Q : Option Value → ly → mm → Prop} (hdd : 6 ≤ d) (σ : mm)     (r : (Int32 × mm)) (h : fX13_tilt_b32 Γ.2 σ  = some r) (hQ : Q (some (.int r.1)) Γ r.2) : WP l G yX13_tilt cX13_tilt 3 (some .int) d 0 0 Q 0 0 32 [] [] Γ σ := by
  unfold fX13_tilt_b32 at h
  refine r_iconst (v := -1) dX13_tilt_32 (by decide) ?_
  exact tX13_tilt_b33 hdd σ (-1 : Int32)  _ h hQ
theorem kX13_tilt {l : Launch} {G : gg} {Γ : ly} {σ : mm} (d : Nat) (hdd : 6 ≤ d) (x0 : Nat) (x1 : Int32) (x2 : Int32) (t0 : tyOK Γ (0, 12) x0) (r : (Int32 × mm)) (h : fX13_tilt Γ.2 σ x0 x1 x2 = some r) : CT l G yX13_tilt cX13_tilt 3 (some .int) d 0 0 [.ref (G.2.1 x0), .int x1, .int x2] Γ σ (PP (some (.int r.1)) Γ r.2) := by
  refine CT.ofWP (by decide) (Nat.le_of_ble_eq_true rfl) ?_
  have hQ : PP (some (.int r.1)) Γ r.2 (some (.int r.1)) Γ r.2 := PP.self
  generalize PP (some (.int r.1)) Γ r.2 = Q at hQ ⊢
  show WP l G yX13_tilt cX13_tilt 3 (some .int) d 0 0 Q 0 0 0 [(0, .ref (G.2.1 x0)), (1, .int x1), (2, .int x2)] [] Γ σ
  unfold fX13_tilt at h
  refine r_aload_n 0 dX13_tilt_0 rfl ?_
  refine r_iconst (v := 0) dX13_tilt_1 (by decide) ?_
  refine q_putI dX13_tilt_2 fd_X13_1 t0 h (fun τ1 h => ?_)
  refine r_aload_n 0 dX13_tilt_5 rfl ?_
  refine r_iload_n 1 dX13_tilt_6 rfl ?_
  obtain ⟨v2, ev2, h⟩ := bd0_some h
  refine q_cVI [.int x1] dX13_tilt_7 cv_X13_258 (ci := 12) rfl rfl t0 rfl rfl (Nat.le_of_ble_eq_true rfl) (by omega) (kX13_isGlass (d - 1) (by omega) x0 x1 t0 v2 ev2) ?_
  refine r_if_eq 32 dX13_tilt_10 (by decide) h (fun _ h => ?_) (fun _ h => ?_)
  · refine r_pick [] rfl ?_
    exact tX13_tilt_b32 hdd τ1  _ h hQ
  · refine r_iload_n 2 dX13_tilt_13 rfl ?_
    refine r_iconst (v := 0) dX13_tilt_14 (by decide) ?_
    refine r_iconst (v := 2) dX13_tilt_15 (by decide) ?_
    obtain ⟨v3, ev3, h⟩ := bd0_some h
    refine q_cSI [.int x2, .int (0 : Int32), .int (2 : Int32)] dX13_tilt_16 cs_X13_75 rfl rfl (Nat.le_of_ble_eq_true rfl) (by omega) (kX13_isIn (d - 1) (by omega) x2 (0 : Int32) (2 : Int32)  v3 ev3) ?_
    refine r_if_eq 32 dX13_tilt_19 (by decide) h (fun _ h => ?_) (fun _ h => ?_)
    · refine r_pick [] rfl ?_
      exact tX13_tilt_b32 hdd τ1  _ h hQ
    · refine r_aload_n 0 dX13_tilt_22 rfl ?_
      refine r_iconst (v := 3) dX13_tilt_23 (by decide) ?_
      refine r_iload_n 1 dX13_tilt_24 rfl ?_
      refine r_iload_n 2 dX13_tilt_25 rfl ?_
      obtain ⟨v4, τ5, ev4, h⟩ := bd2_some h
      refine q_cVI [.int (3 : Int32), .int x1, .int x2] dX13_tilt_26 cv_X13_300 (ci := 12) rfl rfl t0 rfl rfl (Nat.le_of_ble_eq_true rfl) (by omega) (kX13_act (d - 1) (by omega) x0 (3 : Int32) x1 x2 t0 (v4, τ5) ev4) ?_
      refine r_goto 33 dX13_tilt_29 (by decide) ?_
      refine r_pick [] rfl ?_
      exact tX13_tilt_b33 hdd τ5 v4  _ h hQ
theorem tX13_widen_b34 {l : Launch} {G : gg} {Γ : ly} {d : Nat} {Q : Option Value → ly → mm → Prop} (hdd : 6 ≤ d) (σ : mm)  (s0 : Int32)   (r : (Int32 × mm)) (h : fX13_widen_b34 Γ.2 σ s0 = some r) (hQ : Q (some (.int r.1)) Γ r.2) : WP l G yX13_widen cX13_widen 3 (some .int) d 0 0 Q 0 0 34 [] [.int s0] Γ σ := by
  unfold fX13_widen_b34 at h
  obtain rfl := Option.some.inj h
  exact r_ireturn dX13_widen_34 rfl hQ (Nat.le_refl _) (Nat.le_refl _)
theorem tX13_widen_b33 {l : Launch} {G : gg} {Γ : ly} {d : Nat} {Q : Option Value → ly → mm → Prop} (hdd : 6 ≤ d) (σ : mm)     (r : (Int32 × mm)) (h : fX13_widen_b33 Γ.2 σ  = some r) (hQ : Q (some (.int r.1)) Γ r.2) : WP l G yX13_widen cX13_widen 3 (some .int) d 0 0 Q 0 0 33 [] [] Γ σ := by
  unfold fX13_widen_b33 at h
  refine r_iconst (v := -1) dX13_widen_33 (by decide) ?_
  exact tX13_widen_b34 hdd σ (-1 : Int32)  _ h hQ
theorem kX13_widen {l : Launch} {G : gg} {Γ : ly} {σ : mm} (d : Nat) (hdd : 6 ≤ d) (x0 : Nat) (x1 : Int32) (x2 : Int32) (t0 : tyOK Γ (0, 12) x0) (r : (Int32 × mm)) (h : fX13_widen Γ.2 σ x0 x1 x2 = some r) : CT l G yX13_widen cX13_widen 3 (some .int) d 0 0 [.ref (G.2.1 x0), .int x1, .int x2] Γ σ (PP (some (.int r.1)) Γ r.2) := by
  refine CT.ofWP (by decide) (Nat.le_of_ble_eq_true rfl) ?_
  have hQ : PP (some (.int r.1)) Γ r.2 (some (.int r.1)) Γ r.2 := PP.self
  generalize PP (some (.int r.1)) Γ r.2 = Q at hQ ⊢
  show WP l G yX13_widen cX13_widen 3 (some .int) d 0 0 Q 0 0 0 [(0, .ref (G.2.1 x0)), (1, .int x1), (2, .int x2)] [] Γ σ
  unfold fX13_widen at h
  refine r_aload_n 0 dX13_widen_0 rfl ?_
  refine r_iconst (v := 0) dX13_widen_1 (by decide) ?_
  refine q_putI dX13_widen_2 fd_X13_1 t0 h (fun τ1 h => ?_)
  refine r_aload_n 0 dX13_widen_5 rfl ?_
  refine r_iload_n 1 dX13_widen_6 rfl ?_
  obtain ⟨v2, ev2, h⟩ := bd0_some h
  refine q_cVI [.int x1] dX13_widen_7 cv_X13_258 (ci := 12) rfl rfl t0 rfl rfl (Nat.le_of_ble_eq_true rfl) (by omega) (kX13_isGlass (d - 1) (by omega) x0 x1 t0 v2 ev2) ?_
  refine r_if_eq 33 dX13_widen_10 (by decide) h (fun _ h => ?_) (fun _ h => ?_)
  · refine r_pick [] rfl ?_
    exact tX13_widen_b33 hdd τ1  _ h hQ
  · refine r_iload_n 2 dX13_widen_13 rfl ?_
    refine r_iconst (v := 1) dX13_widen_14 (by decide) ?_
    refine r_bipush (v := 8) dX13_widen_15 (by decide) ?_
    obtain ⟨v3, ev3, h⟩ := bd0_some h
    refine q_cSI [.int x2, .int (1 : Int32), .int (8 : Int32)] dX13_widen_17 cs_X13_75 rfl rfl (Nat.le_of_ble_eq_true rfl) (by omega) (kX13_isIn (d - 1) (by omega) x2 (1 : Int32) (8 : Int32)  v3 ev3) ?_
    refine r_if_eq 33 dX13_widen_20 (by decide) h (fun _ h => ?_) (fun _ h => ?_)
    · refine r_pick [] rfl ?_
      exact tX13_widen_b33 hdd τ1  _ h hQ
    · refine r_aload_n 0 dX13_widen_23 rfl ?_
      refine r_iconst (v := 4) dX13_widen_24 (by decide) ?_
      refine r_iload_n 1 dX13_widen_25 rfl ?_
      refine r_iload_n 2 dX13_widen_26 rfl ?_
      obtain ⟨v4, τ5, ev4, h⟩ := bd2_some h
      refine q_cVI [.int (4 : Int32), .int x1, .int x2] dX13_widen_27 cv_X13_300 (ci := 12) rfl rfl t0 rfl rfl (Nat.le_of_ble_eq_true rfl) (by omega) (kX13_act (d - 1) (by omega) x0 (4 : Int32) x1 x2 t0 (v4, τ5) ev4) ?_
      refine r_goto 34 dX13_widen_30 (by decide) ?_
      refine r_pick [] rfl ?_
      exact tX13_widen_b34 hdd τ5 v4  _ h hQ
theorem tX13_spill_b35 {l : Launch} {G : gg} {Γ : ly} {d : Nat} {Q : Option Value → ly → mm → Prop} (hdd : 6 ≤ d) (σ : mm)  (s0 : Int32)   (r : (Int32 × mm)) (h : fX13_spill_b35 Γ.2 σ s0 = some r) (hQ : Q (some (.int r.1)) Γ r.2) : WP l G yX13_spill cX13_spill 3 (some .int) d 0 0 Q 0 0 35 [] [.int s0] Γ σ := by
  unfold fX13_spill_b35 at h
  obtain rfl := Option.some.inj h
  exact r_ireturn dX13_spill_35 rfl hQ (Nat.le_refl _) (Nat.le_refl _)
theorem tX13_spill_b34 {l : Launch} {G : gg} {Γ : ly} {d : Nat} {Q : Option Value → ly → mm → Prop} (hdd : 6 ≤ d) (σ : mm)     (r : (Int32 × mm)) (h : fX13_spill_b34 Γ.2 σ  = some r) (hQ : Q (some (.int r.1)) Γ r.2) : WP l G yX13_spill cX13_spill 3 (some .int) d 0 0 Q 0 0 34 [] [] Γ σ := by
  unfold fX13_spill_b34 at h
  refine r_iconst (v := -1) dX13_spill_34 (by decide) ?_
  exact tX13_spill_b35 hdd σ (-1 : Int32)  _ h hQ
theorem kX13_spill {l : Launch} {G : gg} {Γ : ly} {σ : mm} (d : Nat) (hdd : 6 ≤ d) (x0 : Nat) (x1 : Int32) (x2 : Int32) (t0 : tyOK Γ (0, 12) x0) (r : (Int32 × mm)) (h : fX13_spill Γ.2 σ x0 x1 x2 = some r) : CT l G yX13_spill cX13_spill 3 (some .int) d 0 0 [.ref (G.2.1 x0), .int x1, .int x2] Γ σ (PP (some (.int r.1)) Γ r.2) := by
  refine CT.ofWP (by decide) (Nat.le_of_ble_eq_true rfl) ?_
  have hQ : PP (some (.int r.1)) Γ r.2 (some (.int r.1)) Γ r.2 := PP.self
  generalize PP (some (.int r.1)) Γ r.2 = Q at hQ ⊢
  show WP l G yX13_spill cX13_spill 3 (some .int) d 0 0 Q 0 0 0 [(0, .ref (G.2.1 x0)), (1, .int x1), (2, .int x2)] [] Γ σ
  unfold fX13_spill at h
  refine r_aload_n 0 dX13_spill_0 rfl ?_
  refine r_iconst (v := 0) dX13_spill_1 (by decide) ?_
  refine q_putI dX13_spill_2 fd_X13_1 t0 h (fun τ1 h => ?_)
  refine r_aload_n 0 dX13_spill_5 rfl ?_
  refine r_iload_n 1 dX13_spill_6 rfl ?_
  obtain ⟨v2, ev2, h⟩ := bd0_some h
  refine q_cVI [.int x1] dX13_spill_7 cv_X13_258 (ci := 12) rfl rfl t0 rfl rfl (Nat.le_of_ble_eq_true rfl) (by omega) (kX13_isGlass (d - 1) (by omega) x0 x1 t0 v2 ev2) ?_
  refine r_if_eq 34 dX13_spill_10 (by decide) h (fun _ h => ?_) (fun _ h => ?_)
  · refine r_pick [] rfl ?_
    exact tX13_spill_b34 hdd τ1  _ h hQ
  · refine r_iload_n 2 dX13_spill_13 rfl ?_
    refine r_iconst (v := 1) dX13_spill_14 (by decide) ?_
    refine r_sipush (v := 250) dX13_spill_15 (by decide) ?_
    obtain ⟨v3, ev3, h⟩ := bd0_some h
    refine q_cSI [.int x2, .int (1 : Int32), .int (250 : Int32)] dX13_spill_18 cs_X13_75 rfl rfl (Nat.le_of_ble_eq_true rfl) (by omega) (kX13_isIn (d - 1) (by omega) x2 (1 : Int32) (250 : Int32)  v3 ev3) ?_
    refine r_if_eq 34 dX13_spill_21 (by decide) h (fun _ h => ?_) (fun _ h => ?_)
    · refine r_pick [] rfl ?_
      exact tX13_spill_b34 hdd τ1  _ h hQ
    · refine r_aload_n 0 dX13_spill_24 rfl ?_
      refine r_iconst (v := 5) dX13_spill_25 (by decide) ?_
      refine r_iload_n 1 dX13_spill_26 rfl ?_
      refine r_iload_n 2 dX13_spill_27 rfl ?_
      obtain ⟨v4, τ5, ev4, h⟩ := bd2_some h
      refine q_cVI [.int (5 : Int32), .int x1, .int x2] dX13_spill_28 cv_X13_300 (ci := 12) rfl rfl t0 rfl rfl (Nat.le_of_ble_eq_true rfl) (by omega) (kX13_act (d - 1) (by omega) x0 (5 : Int32) x1 x2 t0 (v4, τ5) ev4) ?_
      refine r_goto 35 dX13_spill_31 (by decide) ?_
      refine r_pick [] rfl ?_
      exact tX13_spill_b35 hdd τ5 v4  _ h hQ
