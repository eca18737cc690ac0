/-! the walks, 2 -/
theorem sX13_startSo_L3 {l : Launch} {G : gg} {Γ : ly} {d : Nat} {Q : Option Value → ly → mm → Prop} (hdd : 0 ≤ d) (x0 : Nat) (t0 : tyOK Γ (0, 12) x0) {K : mm → Prop} (kx0 : ∀ (σ9 : mm), K σ9 → WP l G yX13_startSo cX13_startSo 2 (none) d 0 0 Q 0 0 23 [(0, .ref (G.2.1 x0))] [] Γ σ9) : ∀ (N : Nat) (s : (Int32 × mm)) (b : mm), loopN (fX13_startSo_L3 Γ.2 x0) N s = some b → K b → WP l G yX13_startSo cX13_startSo 2 (none) d 0 0 Q 0 0 3 [(0, .ref (G.2.1 x0)), (1, .int s.1)] [] Γ s.2 := by
  refine r_loop (f := fX13_startSo_L3 Γ.2 x0) (hlv := fun s => [(0, .ref (G.2.1 x0)), (1, .int s.1)]) (hsg := fun s => s.2) ?_
  rintro ⟨x1, σ⟩ r h hb hx
  have hb : ∀ (x1 : Int32) (σ : mm), r = .inl (x1, σ) → WP l G yX13_startSo cX13_startSo 2 (none) d 0 0 Q 0 0 3 [(0, .ref (G.2.1 x0)), (1, .int x1)] [] Γ σ := fun x1 σ e => hb (x1, σ) e
  have hx0 : ∀ (σ9 : mm), r = .inr σ9 → WP l G yX13_startSo cX13_startSo 2 (none) d 0 0 Q 0 0 23 [(0, .ref (G.2.1 x0))] [] Γ σ9 := fun σ9 e => kx0 σ9 (hx _ e)
  unfold fX13_startSo_L3 at h
  have h := un2_some h
  show WP l G yX13_startSo cX13_startSo 2 (none) d 0 0 Q 0 0 3 [(0, .ref (G.2.1 x0)), (1, .int x1)] [] Γ σ
  refine r_iload_n 1 dX13_startSo_3 rfl ?_
  refine r_sipush (v := 383) dX13_startSo_4 (by decide) ?_
  refine r_icmp_ge 23 dX13_startSo_7 (by decide) h (fun _ h => ?_) (fun _ h => ?_)
  · obtain rfl := Option.some.inj h
    refine r_pick [0] rfl ?_
    exact hx0 _ rfl
  · refine r_aload_n 0 dX13_startSo_10 rfl ?_
    refine q_getR (e9 := (1, 0)) dX13_startSo_11 fd_X13_98 t0 rfl h (fun r1 tr1 h => ?_)
    refine r_iload_n 1 dX13_startSo_14 rfl ?_
    refine r_iconst (v := 0) dX13_startSo_15 (by decide) ?_
    refine q_iast dX13_startSo_16 tr1 h (fun τ2 h => ?_)
    refine q_iinc (v := 1) 1 (fun v3 => [(1, .int v3), (0, .ref (G.2.1 x0))]) dX13_startSo_17 rfl (by decide) (by decide) (fun _ => rfl) h (fun v3 h => ?_)
    refine r_goto 3 dX13_startSo_20 (by decide) ?_
    obtain rfl := Option.some.inj h
    refine r_pick [1, 0] rfl ?_
    exact hb _ _ rfl
theorem sX13_startSo_L25 {l : Launch} {G : gg} {Γ : ly} {d : Nat} {Q : Option Value → ly → mm → Prop} (hdd : 0 ≤ d) (x0 : Nat) (t0 : tyOK Γ (0, 12) x0) {K : mm → Prop} (kx0 : ∀ (σ9 : mm), K σ9 → WP l G yX13_startSo cX13_startSo 2 (none) d 0 0 Q 0 0 55 [(0, .ref (G.2.1 x0))] [] Γ σ9) : ∀ (N : Nat) (s : (Int32 × mm)) (b : mm), loopN (fX13_startSo_L25 Γ.2 x0) N s = some b → K b → WP l G yX13_startSo cX13_startSo 2 (none) d 0 0 Q 0 0 25 [(0, .ref (G.2.1 x0)), (1, .int s.1)] [] Γ s.2 := by
  refine r_loop (f := fX13_startSo_L25 Γ.2 x0) (hlv := fun s => [(0, .ref (G.2.1 x0)), (1, .int s.1)]) (hsg := fun s => s.2) ?_
  rintro ⟨x1, σ⟩ r h hb hx
  have hb : ∀ (x1 : Int32) (σ : mm), r = .inl (x1, σ) → WP l G yX13_startSo cX13_startSo 2 (none) d 0 0 Q 0 0 25 [(0, .ref (G.2.1 x0)), (1, .int x1)] [] Γ σ := fun x1 σ e => hb (x1, σ) e
  have hx0 : ∀ (σ9 : mm), r = .inr σ9 → WP l G yX13_startSo cX13_startSo 2 (none) d 0 0 Q 0 0 55 [(0, .ref (G.2.1 x0))] [] Γ σ9 := fun σ9 e => kx0 σ9 (hx _ e)
  unfold fX13_startSo_L25 at h
  have h := un2_some h
  show WP l G yX13_startSo cX13_startSo 2 (none) d 0 0 Q 0 0 25 [(0, .ref (G.2.1 x0)), (1, .int x1)] [] Γ σ
  refine r_iload_n 1 dX13_startSo_25 rfl ?_
  refine r_bipush (v := 8) dX13_startSo_26 (by decide) ?_
  refine r_icmp_ge 55 dX13_startSo_28 (by decide) h (fun _ h => ?_) (fun _ h => ?_)
  · obtain rfl := Option.some.inj h
    refine r_pick [0] rfl ?_
    exact hx0 _ rfl
  · refine r_aload_n 0 dX13_startSo_31 rfl ?_
    refine q_getR (e9 := (1, 0)) dX13_startSo_32 fd_X13_98 t0 rfl h (fun r1 tr1 h => ?_)
    refine r_bipush (v := 105) dX13_startSo_35 (by decide) ?_
    refine r_iload_n 1 dX13_startSo_37 rfl ?_
    refine r_iadd dX13_startSo_38 ?_
    refine r_aload_n 0 dX13_startSo_39 rfl ?_
    refine q_getR (e9 := (1, 0)) dX13_startSo_40 fd_X13_98 t0 rfl h (fun r2 tr2 h => ?_)
    refine r_bipush (v := 24) dX13_startSo_43 (by decide) ?_
    refine r_iload_n 1 dX13_startSo_45 rfl ?_
    refine r_iadd dX13_startSo_46 ?_
    refine q_iald dX13_startSo_47 tr2 h (fun v3 h => ?_)
    refine q_iast dX13_startSo_48 tr1 h (fun τ4 h => ?_)
    refine q_iinc (v := 1) 1 (fun v5 => [(1, .int v5), (0, .ref (G.2.1 x0))]) dX13_startSo_49 rfl (by decide) (by decide) (fun _ => rfl) h (fun v5 h => ?_)
    refine r_goto 25 dX13_startSo_52 (by decide) ?_
    obtain rfl := Option.some.inj h
    refine r_pick [1, 0] rfl ?_
    exact hb _ _ rfl
theorem sX13_startSo_L57 {l : Launch} {G : gg} {Γ : ly} {d : Nat} {Q : Option Value → ly → mm → Prop} (hdd : 0 ≤ d) (x0 : Nat) (t0 : tyOK Γ (0, 12) x0) {K : mm → Prop} (kx0 : ∀ (σ9 : mm), K σ9 → WP l G yX13_startSo cX13_startSo 2 (none) d 0 0 Q 0 0 104 [] [] Γ σ9) : ∀ (N : Nat) (s : (Int32 × mm)) (b : mm), loopN (fX13_startSo_L57 Γ.2 x0) N s = some b → K b → WP l G yX13_startSo cX13_startSo 2 (none) d 0 0 Q 0 0 57 [(0, .ref (G.2.1 x0)), (1, .int s.1)] [] Γ s.2 := by
  refine r_loop (f := fX13_startSo_L57 Γ.2 x0) (hlv := fun s => [(0, .ref (G.2.1 x0)), (1, .int s.1)]) (hsg := fun s => s.2) ?_
  rintro ⟨x1, σ⟩ r h hb hx
  have hb : ∀ (x1 : Int32) (σ : mm), r = .inl (x1, σ) → WP l G yX13_startSo cX13_startSo 2 (none) d 0 0 Q 0 0 57 [(0, .ref (G.2.1 x0)), (1, .int x1)] [] Γ σ := fun x1 σ e => hb (x1, σ) e
  have hx0 : ∀ (σ9 : mm), r = .inr σ9 → WP l G yX13_startSo cX13_startSo 2 (none) d 0 0 Q 0 0 104 [] [] Γ σ9 := fun σ9 e => kx0 σ9 (hx _ e)
  unfold fX13_startSo_L57 at h
  have h := un2_some h
  show WP l G yX13_startSo cX13_startSo 2 (none) d 0 0 Q 0 0 57 [(0, .ref (G.2.1 x0)), (1, .int x1)] [] Γ σ
  refine r_iload_n 1 dX13_startSo_57 rfl ?_
  refine r_iconst (v := 4) dX13_startSo_58 (by decide) ?_
  refine r_icmp_ge 104 dX13_startSo_59 (by decide) h (fun _ h => ?_) (fun _ h => ?_)
  · obtain rfl := Option.some.inj h
    refine r_pick [] rfl ?_
    exact hx0 _ rfl
  · refine r_aload_n 0 dX13_startSo_62 rfl ?_
    refine q_getR (e9 := (1, 0)) dX13_startSo_63 fd_X13_98 t0 rfl h (fun r1 tr1 h => ?_)
    refine r_bipush (v := 121) dX13_startSo_66 (by decide) ?_
    refine r_iload_n 1 dX13_startSo_68 rfl ?_
    refine r_iadd dX13_startSo_69 ?_
    refine r_aload_n 0 dX13_startSo_70 rfl ?_
    refine q_getR (e9 := (1, 0)) dX13_startSo_71 fd_X13_98 t0 rfl h (fun r2 tr2 h => ?_)
    refine r_bipush (v := 68) dX13_startSo_74 (by decide) ?_
    refine r_iload_n 1 dX13_startSo_76 rfl ?_
    refine r_iadd dX13_startSo_77 ?_
    refine q_iald dX13_startSo_78 tr2 h (fun v3 h => ?_)
    refine q_iast dX13_startSo_79 tr1 h (fun τ4 h => ?_)
    refine r_aload_n 0 dX13_startSo_80 rfl ?_
    refine q_getR (e9 := (1, 0)) dX13_startSo_81 fd_X13_98 t0 rfl h (fun r5 tr5 h => ?_)
    refine r_bipush (v := 125) dX13_startSo_84 (by decide) ?_
    refine r_iload_n 1 dX13_startSo_86 rfl ?_
    refine r_iadd dX13_startSo_87 ?_
    refine r_aload_n 0 dX13_startSo_88 rfl ?_
    refine q_getR (e9 := (1, 0)) dX13_startSo_89 fd_X13_98 t0 rfl h (fun r6 tr6 h => ?_)
    refine r_bipush (v := 64) dX13_startSo_92 (by decide) ?_
    refine r_iload_n 1 dX13_startSo_94 rfl ?_
    refine r_iadd dX13_startSo_95 ?_
    refine q_iald dX13_startSo_96 tr6 h (fun v7 h => ?_)
    refine q_iast dX13_startSo_97 tr5 h (fun τ8 h => ?_)
    refine q_iinc (v := 1) 1 (fun v9 => [(1, .int v9), (0, .ref (G.2.1 x0))]) dX13_startSo_98 rfl (by decide) (by decide) (fun _ => rfl) h (fun v9 h => ?_)
    refine r_goto 57 dX13_startSo_101 (by decide) ?_
    obtain rfl := Option.some.inj h
    refine r_pick [1, 0] rfl ?_
    exact hb _ _ rfl
theorem kX13_startSo {l : Launch} {G : gg} {Γ : ly} {σ : mm} (d : Nat) (hdd : 0 ≤ d) (x0 : Nat) (t0 : tyOK Γ (0, 12) x0) (r : mm) (h : fX13_startSo Γ.2 σ x0 = some r) : CT l G yX13_startSo cX13_startSo 2 (none) d 0 0 [.ref (G.2.1 x0)] Γ σ (PP none Γ r) := by
  refine CT.ofWP (by decide) (Nat.le_of_ble_eq_true rfl) ?_
  have hQ : PP none Γ r none Γ r := PP.self
  generalize PP none Γ r = Q at hQ ⊢
  show WP l G yX13_startSo cX13_startSo 2 (none) d 0 0 Q 0 0 0 [(0, .ref (G.2.1 x0))] [] Γ σ
  unfold fX13_startSo at h
  refine r_bipush (v := 102) dX13_startSo_0 (by decide) ?_
  refine r_istore_n (lv' := [(1, .int (102 : Int32)), (0, .ref (G.2.1 x0))]) dX13_startSo_2 (by decide) rfl ?_
  obtain ⟨b1, eb1, h⟩ := bd0_some h
  refine r_pick [1, 0] rfl ?_
  refine sX13_startSo_L3 hdd x0 t0 (K := fun b => b = b1) ?_ 1000 ((102 : Int32), σ) b1 eb1 rfl
  rintro τ2 rfl
  refine r_iconst (v := 0) dX13_startSo_23 (by decide) ?_
  refine r_istore_n (lv' := [(1, .int (0 : Int32)), (0, .ref (G.2.1 x0))]) dX13_startSo_24 (by decide) rfl ?_
  obtain ⟨b3, eb3, h⟩ := bd0_some h
  refine r_pick [1, 0] rfl ?_
  refine sX13_startSo_L25 hdd x0 t0 (K := fun b => b = b3) ?_ 1000 ((0 : Int32), τ2) b3 eb3 rfl
  rintro τ4 rfl
  refine r_iconst (v := 0) dX13_startSo_55 (by decide) ?_
  refine r_istore_n (lv' := [(1, .int (0 : Int32)), (0, .ref (G.2.1 x0))]) dX13_startSo_56 (by decide) rfl ?_
  obtain ⟨b5, eb5, h⟩ := bd0_some h
  refine r_pick [1, 0] rfl ?_
  refine sX13_startSo_L57 hdd x0 t0 (K := fun b => b = b5) ?_ 1000 ((0 : Int32), τ4) b5 eb5 rfl
  rintro τ6 rfl
  obtain rfl := Option.some.inj h
  exact r_return dX13_startSo_104 rfl hQ (Nat.le_refl _) (Nat.le_refl _)
theorem sX13_findIn_L3 {l : Launch} {G : gg} {Γ : ly} {d : Nat} {Q : Option Value → ly → mm → Prop} (hdd : 0 ≤ d) (σ : mm) (x0 : Nat) (x1 : Int32) (x2 : Int32) (x3 : Int64) (t0 : tyOK Γ (4, 0) x0) {K : (Int32 ⊕ Unit) → Prop} (kx0 : ∀ (x5 : Int32), K (.inl x5) → WP l G yX13_findIn cX13_findIn 6 (some .int) d 0 0 Q 0 0 20 [(5, .int x5)] [] Γ σ) (kx1 : K (.inr ()) → WP l G yX13_findIn cX13_findIn 6 (some .int) d 0 0 Q 0 0 29 [] [] Γ σ) : ∀ (N : Nat) (s : Int32) (b : (Int32 ⊕ Unit)), loopN (fX13_findIn_L3 Γ.2 σ x0 x1 x2 x3) N s = some b → K b → WP l G yX13_findIn cX13_findIn 6 (some .int) d 0 0 Q 0 0 3 [(0, .ref (G.2.1 x0)), (1, .int x1), (2, .int x2), (3, .long x3), (5, .int s)] [] Γ σ := by
  refine r_loop (f := fX13_findIn_L3 Γ.2 σ x0 x1 x2 x3) (hlv := fun s => [(0, .ref (G.2.1 x0)), (1, .int x1), (2, .int x2), (3, .long x3), (5, .int s)]) (hsg := fun s => σ) ?_
  rintro x5 r h hb hx
  have hx0 : ∀ (x5 : Int32), r = .inr (.inl x5) → WP l G yX13_findIn cX13_findIn 6 (some .int) d 0 0 Q 0 0 20 [(5, .int x5)] [] Γ σ := fun x5 e => kx0 x5 (hx _ e)
  have hx1 : r = .inr (.inr ()) → WP l G yX13_findIn cX13_findIn 6 (some .int) d 0 0 Q 0 0 29 [] [] Γ σ := fun e => kx1  (hx _ e)
  unfold fX13_findIn_L3 at h
  show WP l G yX13_findIn cX13_findIn 6 (some .int) d 0 0 Q 0 0 3 [(0, .ref (G.2.1 x0)), (1, .int x1), (2, .int x2), (3, .long x3), (5, .int x5)] [] Γ σ
  refine r_iload 4 dX13_findIn_3 rfl ?_
  refine r_iload_n 2 dX13_findIn_5 rfl ?_
  refine r_icmp_ge 29 dX13_findIn_6 (by decide) h (fun _ h => ?_) (fun _ h => ?_)
  · obtain rfl := Option.some.inj h
    refine r_pick [] rfl ?_
    exact hx1  rfl
  · refine r_aload_n 0 dX13_findIn_9 rfl ?_
    refine r_iload_n 1 dX13_findIn_10 rfl ?_
    refine r_iload 4 dX13_findIn_11 rfl ?_
    refine r_iadd dX13_findIn_13 ?_
    refine q_lald dX13_findIn_14 t0 h (fun v1 h => ?_)
    refine r_lload_n 3 dX13_findIn_15 rfl ?_
    refine r_lcmp dX13_findIn_16 ?_
    refine r_if_ne 23 dX13_findIn_17 (by decide) h (fun _ h => ?_) (fun _ h => ?_)
    · refine q_iinc (v := 1) 4 (fun v2 => [(5, .int v2), (0, .ref (G.2.1 x0)), (1, .int x1), (2, .int x2), (3, .long x3)]) dX13_findIn_23 rfl (by decide) (by decide) (fun _ => rfl) h (fun v2 h => ?_)
      refine r_goto 3 dX13_findIn_26 (by decide) ?_
      obtain rfl := Option.some.inj h
      refine r_pick [1, 2, 3, 4, 0] rfl ?_
      exact hb _ rfl
    · obtain rfl := Option.some.inj h
      refine r_pick [4] rfl ?_
      exact hx0 _ rfl
theorem kX13_findIn {l : Launch} {G : gg} {Γ : ly} {σ : mm} (d : Nat) (hdd : 0 ≤ d) (x0 : Nat) (x1 : Int32) (x2 : Int32) (x3 : Int64) (t0 : tyOK Γ (4, 0) x0) (r : Int32) (h : fX13_findIn Γ.2 σ x0 x1 x2 x3 = some r) : CT l G yX13_findIn cX13_findIn 6 (some .int) d 0 0 [.ref (G.2.1 x0), .int x1, .int x2, .long x3] Γ σ (PP (some (.int r)) Γ σ) := by
  refine CT.ofWP (by decide) (Nat.le_of_ble_eq_true rfl) ?_
  have hQ : PP (some (.int r)) Γ σ (some (.int r)) Γ σ := PP.self
  generalize PP (some (.int r)) Γ σ = Q at hQ ⊢
  show WP l G yX13_findIn cX13_findIn 6 (some .int) d 0 0 Q 0 0 0 [(0, .ref (G.2.1 x0)), (1, .int x1), (2, .int x2), (3, .long x3)] [] Γ σ
  unfold fX13_findIn at h
  refine r_iconst (v := 0) dX13_findIn_0 (by decide) ?_
  refine r_istore (lv' := [(5, .int (0 : Int32)), (0, .ref (G.2.1 x0)), (1, .int x1), (2, .int x2), (3, .long x3)]) dX13_findIn_1 (by decide) rfl ?_
  obtain ⟨b1, eb1, h⟩ := bd0_some h
  refine r_pick [1, 2, 3, 4, 0] rfl ?_
  refine sX13_findIn_L3 hdd σ x0 x1 x2 x3 t0 (K := fun b => b = b1) ?_ ?_ 1000 (0 : Int32) b1 eb1 rfl
  · rintro v2 rfl
    have h := cs2_0 h
    refine r_iload 0 dX13_findIn_20 rfl ?_
    obtain rfl := Option.some.inj h
    exact r_ireturn dX13_findIn_22 rfl hQ (Nat.le_refl _) (Nat.le_refl _)
  · rintro rfl
    have h := cs2_1 h
    refine r_iconst (v := -1) dX13_findIn_29 (by decide) ?_
    obtain rfl := Option.some.inj h
    exact r_ireturn dX13_findIn_30 rfl hQ (Nat.le_refl _) (Nat.le_refl _)
theorem tX13_readNew_b81 {l : Launch} {G : gg} {Γ : ly} {d : Nat} {Q : Option Value → ly → mm → Prop} (hdd : 3 ≤ d) (σ : mm) (x0 : Nat)  (t0 : tyOK Γ (0, 12) x0)  (r : (Int32 × mm)) (h : fX13_readNew_b81 Γ.2 σ x0 = some r) (hQ : Q (some (.int r.1)) Γ r.2) : WP l G yX13_readNew cX13_readNew 2 (some .boolean) d 0 0 Q 0 0 81 [(0, .ref (G.2.1 x0))] [] Γ σ := by
  unfold fX13_readNew_b81 at h
  refine r_aload_n 0 dX13_readNew_81 rfl ?_
  refine r_iconst (v := 3) dX13_readNew_82 (by decide) ?_
  obtain ⟨v1, τ2, ev1, h⟩ := bd2_some h
  refine q_cVI [.int (3 : Int32)] dX13_readNew_83 cv_X13_72 (ci := 12) rfl rfl t0 rfl rfl (Nat.le_of_ble_eq_true rfl) (by omega) (kX13_bad (d - 1) (by omega) x0 (3 : Int32) t0 (v1, τ2) ev1) ?_
  obtain ⟨hbz, h⟩ := rZ_some h
  obtain rfl := Option.some.inj h
  exact r_zreturn dX13_readNew_86 rfl hbz hQ (Nat.le_refl _) (Nat.le_refl _)
theorem kX13_readNew {l : Launch} {G : gg} {Γ : ly} {σ : mm} (d : Nat) (hdd : 3 ≤ d) (x0 : Nat) (x1 : Int32) (t0 : tyOK Γ (0, 12) x0) (r : (Int32 × mm)) (h : fX13_readNew Γ.2 σ x0 x1 = some r) : CT l G yX13_readNew cX13_readNew 2 (some .boolean) d 0 0 [.ref (G.2.1 x0), .int x1] Γ σ (PP (some (.int r.1)) Γ r.2) := by
  refine CT.ofWP (by decide) (Nat.le_of_ble_eq_true rfl) ?_
  have hQ : PP (some (.int r.1)) Γ r.2 (some (.int r.1)) Γ r.2 := PP.self
  generalize PP (some (.int r.1)) Γ r.2 = Q at hQ ⊢
  show WP l G yX13_readNew cX13_readNew 2 (some .boolean) d 0 0 Q 0 0 0 [(0, .ref (G.2.1 x0)), (1, .int x1)] [] Γ σ
  unfold fX13_readNew at h
  refine r_aload_n 0 dX13_readNew_0 rfl ?_
  obtain ⟨v1, ev1, h⟩ := bd0_some h
  refine q_cVI [] dX13_readNew_1 cv_X13_154 (ci := 12) rfl rfl t0 rfl rfl (Nat.le_of_ble_eq_true rfl) (by omega) (kX13_isName (d - 1) (by omega) x0 t0 v1 ev1) ?_
  refine r_if_ne 13 dX13_readNew_4 (by decide) h (fun _ h => ?_) (fun _ h => ?_)
  · refine r_aload_n 0 dX13_readNew_13 rfl ?_
    refine q_getR (e9 := (4, 0)) dX13_readNew_14 fd_X13_117 t0 rfl h (fun r2 tr2 h => ?_)
    refine r_iconst (v := 0) dX13_readNew_17 (by decide) ?_
    refine r_aload_n 0 dX13_readNew_18 rfl ?_
    refine q_getR (e9 := (1, 0)) dX13_readNew_19 fd_X13_101 t0 rfl h (fun r3 tr3 h => ?_)
    refine r_iconst (v := 0) dX13_readNew_22 (by decide) ?_
    refine q_iald dX13_readNew_23 tr3 h (fun v4 h => ?_)
    refine r_aload_n 0 dX13_readNew_24 rfl ?_
    refine r_getL dX13_readNew_25 fd_X13_43 t0 ?_
    obtain ⟨v5, ev5, h⟩ := bd0_some h
    refine q_cSI [.ref (G.2.1 r2), .int (0 : Int32), .int v4, .long (σ.2.1 x0 12)] dX13_readNew_28 cs_X13_158 rfl rfl (Nat.le_of_ble_eq_true rfl) (by omega) (kX13_findIn (d - 1) (by omega) r2 (0 : Int32) v4 (σ.2.1 x0 12) tr2 v5 ev5) ?_
    refine r_iconst (v := -1) dX13_readNew_31 (by decide) ?_
    refine r_icmp_ne 81 dX13_readNew_32 (by decide) h (fun _ h => ?_) (fun _ h => ?_)
    · refine r_pick [0] rfl ?_
      exact tX13_readNew_b81 hdd σ x0 t0 _ h hQ
    · refine r_aload_n 0 dX13_readNew_35 rfl ?_
      refine q_getR (e9 := (4, 0)) dX13_readNew_36 fd_X13_117 t0 rfl h (fun r6 tr6 h => ?_)
      refine r_bipush (v := 8) dX13_readNew_39 (by decide) ?_
      refine r_aload_n 0 dX13_readNew_41 rfl ?_
      refine q_getR (e9 := (1, 0)) dX13_readNew_42 fd_X13_101 t0 rfl h (fun r7 tr7 h => ?_)
      refine r_iconst (v := 1) dX13_readNew_45 (by decide) ?_
      refine q_iald dX13_readNew_46 tr7 h (fun v8 h => ?_)
      refine r_aload_n 0 dX13_readNew_47 rfl ?_
      refine r_getL dX13_readNew_48 fd_X13_43 t0 ?_
      obtain ⟨v9, ev9, h⟩ := bd0_some h
      refine q_cSI [.ref (G.2.1 r6), .int (8 : Int32), .int v8, .long (σ.2.1 x0 12)] dX13_readNew_51 cs_X13_158 rfl rfl (Nat.le_of_ble_eq_true rfl) (by omega) (kX13_findIn (d - 1) (by omega) r6 (8 : Int32) v8 (σ.2.1 x0 12) tr6 v9 ev9) ?_
      refine r_iconst (v := -1) dX13_readNew_54 (by decide) ?_
      refine r_icmp_ne 81 dX13_readNew_55 (by decide) h (fun _ h => ?_) (fun _ h => ?_)
      · refine r_pick [0] rfl ?_
        exact tX13_readNew_b81 hdd σ x0 t0 _ h hQ
      · refine r_aload_n 0 dX13_readNew_58 rfl ?_
        refine q_getR (e9 := (4, 0)) dX13_readNew_59 fd_X13_117 t0 rfl h (fun r10 tr10 h => ?_)
        refine r_bipush (v := 12) dX13_readNew_62 (by decide) ?_
        refine r_aload_n 0 dX13_readNew_64 rfl ?_
        refine q_getR (e9 := (1, 0)) dX13_readNew_65 fd_X13_101 t0 rfl h (fun r11 tr11 h => ?_)
        refine r_iconst (v := 2) dX13_readNew_68 (by decide) ?_
        refine q_iald dX13_readNew_69 tr11 h (fun v12 h => ?_)
        refine r_aload_n 0 dX13_readNew_70 rfl ?_
        refine r_getL dX13_readNew_71 fd_X13_43 t0 ?_
        obtain ⟨v13, ev13, h⟩ := bd0_some h
        refine q_cSI [.ref (G.2.1 r10), .int (12 : Int32), .int v12, .long (σ.2.1 x0 12)] dX13_readNew_74 cs_X13_158 rfl rfl (Nat.le_of_ble_eq_true rfl) (by omega) (kX13_findIn (d - 1) (by omega) r10 (12 : Int32) v12 (σ.2.1 x0 12) tr10 v13 ev13) ?_
        refine r_iconst (v := -1) dX13_readNew_77 (by decide) ?_
        refine r_icmp_eq 87 dX13_readNew_78 (by decide) h (fun _ h => ?_) (fun _ h => ?_)
        · refine r_aload_n 0 dX13_readNew_87 rfl ?_
          refine q_getR (e9 := (4, 0)) dX13_readNew_88 fd_X13_117 t0 rfl h (fun r14 tr14 h => ?_)
          refine r_iload_n 1 dX13_readNew_91 rfl ?_
          refine r_aload_n 0 dX13_readNew_92 rfl ?_
          refine r_getL dX13_readNew_93 fd_X13_43 t0 ?_
          refine q_last dX13_readNew_96 tr14 h (fun τ15 h => ?_)
          refine r_aload_n 0 dX13_readNew_97 rfl ?_
          obtain ⟨τ16, eτ16, h⟩ := bd0_some h
          refine q_cVV [] dX13_readNew_98 cv_X13_82 (ci := 12) rfl rfl t0 rfl rfl (Nat.le_of_ble_eq_true rfl) (by omega) (kX13_go (d - 1) (by omega) x0 t0 τ16 eτ16) ?_
          refine r_iconst (v := 1) dX13_readNew_101 (by decide) ?_
          obtain rfl := Option.some.inj h
          exact r_zreturn dX13_readNew_102 rfl (by decide) hQ (Nat.le_refl _) (Nat.le_refl _)
        · refine r_pick [0] rfl ?_
          exact tX13_readNew_b81 hdd σ x0 t0 _ h hQ
  · refine r_aload_n 0 dX13_readNew_7 rfl ?_
    refine r_iconst (v := 1) dX13_readNew_8 (by decide) ?_
    obtain ⟨v17, τ18, ev17, h⟩ := bd2_some h
    refine q_cVI [.int (1 : Int32)] dX13_readNew_9 cv_X13_72 (ci := 12) rfl rfl t0 rfl rfl (Nat.le_of_ble_eq_true rfl) (by omega) (kX13_bad (d - 1) (by omega) x0 (1 : Int32) t0 (v17, τ18) ev17) ?_
    obtain ⟨hbz, h⟩ := rZ_some h
    obtain rfl := Option.some.inj h
    exact r_zreturn dX13_readNew_12 rfl hbz hQ (Nat.le_refl _) (Nat.le_refl _)
theorem tX13_isOne_b51 {l : Launch} {G : gg} {Γ : ly} {d : Nat} {Q : Option Value → ly → mm → Prop} (hdd : 3 ≤ d) (σ : mm)  (s0 : Int32)   (r : (Int32 × mm)) (h : fX13_isOne_b51 Γ.2 σ s0 = some r) (hQ : Q (some (.int r.1)) Γ r.2) : WP l G yX13_isOne cX13_isOne 3 (some .boolean) d 0 0 Q 0 0 51 [] [.int s0] Γ σ := by
  unfold fX13_isOne_b51 at h
  obtain ⟨hbz, h⟩ := rZ_some h
  obtain rfl := Option.some.inj h
  exact r_zreturn dX13_isOne_51 rfl hbz hQ (Nat.le_refl _) (Nat.le_refl _)
theorem tX13_isOne_b46 {l : Launch} {G : gg} {Γ : ly} {d : Nat} {Q : Option Value → ly → mm → Prop} (hdd : 3 ≤ d) (σ : mm)     (r : (Int32 × mm)) (h : fX13_isOne_b46 Γ.2 σ  = some r) (hQ : Q (some (.int r.1)) Γ r.2) : WP l G yX13_isOne cX13_isOne 3 (some .boolean) d 0 0 Q 0 0 46 [] [] Γ σ := by
  unfold fX13_isOne_b46 at h
  refine r_iconst (v := 1) dX13_isOne_46 (by decide) ?_
  refine r_goto 51 dX13_isOne_47 (by decide) ?_
  exact tX13_isOne_b51 hdd σ (1 : Int32)  _ h hQ
theorem kX13_isOne {l : Launch} {G : gg} {Γ : ly} {σ : mm} (d : Nat) (hdd : 3 ≤ d) (x0 : Nat) (x1 : Int32) (x2 : Int32) (t0 : tyOK Γ (0, 12) x0) (r : (Int32 × mm)) (h : fX13_isOne Γ.2 σ x0 x1 x2 = some r) : CT l G yX13_isOne cX13_isOne 3 (some .boolean) d 0 0 [.ref (G.2.1 x0), .int x1, .int x2] Γ σ (PP (some (.int r.1)) Γ r.2) := by
  refine CT.ofWP (by decide) (Nat.le_of_ble_eq_true rfl) ?_
  have hQ : PP (some (.int r.1)) Γ r.2 (some (.int r.1)) Γ r.2 := PP.self
  generalize PP (some (.int r.1)) Γ r.2 = Q at hQ ⊢
  show WP l G yX13_isOne cX13_isOne 3 (some .boolean) d 0 0 Q 0 0 0 [(0, .ref (G.2.1 x0)), (1, .int x1), (2, .int x2)] [] Γ σ
  unfold fX13_isOne at h
  refine r_aload_n 0 dX13_isOne_0 rfl ?_
  obtain ⟨v1, ev1, h⟩ := bd0_some h
  refine q_cVI [] dX13_isOne_1 cv_X13_154 (ci := 12) rfl rfl t0 rfl rfl (Nat.le_of_ble_eq_true rfl) (by omega) (kX13_isName (d - 1) (by omega) x0 t0 v1 ev1) ?_
  refine r_if_ne 13 dX13_isOne_4 (by decide) h (fun _ h => ?_) (fun _ h => ?_)
  · refine r_aload_n 0 dX13_isOne_13 rfl ?_
    refine r_aload_n 0 dX13_isOne_14 rfl ?_
    refine q_getR (e9 := (4, 0)) dX13_isOne_15 fd_X13_117 t0 rfl h (fun r2 tr2 h => ?_)
    refine r_iload_n 1 dX13_isOne_18 rfl ?_
    refine r_iload_n 2 dX13_isOne_19 rfl ?_
    refine r_aload_n 0 dX13_isOne_20 rfl ?_
    refine r_getL dX13_isOne_21 fd_X13_43 t0 ?_
    obtain ⟨v3, ev3, h⟩ := bd0_some h
    refine q_cSI [.ref (G.2.1 r2), .int x1, .int x2, .long (σ.2.1 x0 12)] dX13_isOne_24 cs_X13_158 rfl rfl (Nat.le_of_ble_eq_true rfl) (by omega) (kX13_findIn (d - 1) (by omega) r2 x1 x2 (σ.2.1 x0 12) tr2 v3 ev3) ?_
    refine q_putI dX13_isOne_27 fd_X13_79 t0 h (fun τ4 h => ?_)
    refine r_aload_n 0 dX13_isOne_30 rfl ?_
    refine r_getI dX13_isOne_31 fd_X13_79 t0 ?_
    refine r_iconst (v := -1) dX13_isOne_34 (by decide) ?_
    refine r_icmp_ne 46 dX13_isOne_35 (by decide) h (fun _ h => ?_) (fun _ h => ?_)
    · refine r_pick [] rfl ?_
      exact tX13_isOne_b46 hdd τ4  _ h hQ
    · refine r_aload_n 0 dX13_isOne_38 rfl ?_
      refine r_iconst (v := 3) dX13_isOne_39 (by decide) ?_
      obtain ⟨v5, τ6, ev5, h⟩ := bd2_some h
      refine q_cVI [.int (3 : Int32)] dX13_isOne_40 cv_X13_72 (ci := 12) rfl rfl t0 rfl rfl (Nat.le_of_ble_eq_true rfl) (by omega) (kX13_bad (d - 1) (by omega) x0 (3 : Int32) t0 (v5, τ6) ev5) ?_
      refine r_if_eq 50 dX13_isOne_43 (by decide) h (fun _ h => ?_) (fun _ h => ?_)
      · refine r_iconst (v := 0) dX13_isOne_50 (by decide) ?_
        refine r_pick [] rfl ?_
        exact tX13_isOne_b51 hdd τ6 (0 : Int32)  _ h hQ
      · refine r_pick [] rfl ?_
        exact tX13_isOne_b46 hdd τ6  _ h hQ
  · refine r_aload_n 0 dX13_isOne_7 rfl ?_
    refine r_iconst (v := 1) dX13_isOne_8 (by decide) ?_
    obtain ⟨v7, τ8, ev7, h⟩ := bd2_some h
    refine q_cVI [.int (1 : Int32)] dX13_isOne_9 cv_X13_72 (ci := 12) rfl rfl t0 rfl rfl (Nat.le_of_ble_eq_true rfl) (by omega) (kX13_bad (d - 1) (by omega) x0 (1 : Int32) t0 (v7, τ8) ev7) ?_
    obtain ⟨hbz, h⟩ := rZ_some h
    obtain rfl := Option.some.inj h
    exact r_zreturn dX13_isOne_12 rfl hbz hQ (Nat.le_refl _) (Nat.le_refl _)
theorem kX13_readOne {l : Launch} {G : gg} {Γ : ly} {σ : mm} (d : Nat) (hdd : 4 ≤ d) (x0 : Nat) (x1 : Int32) (x2 : Int32) (t0 : tyOK Γ (0, 12) x0) (r : (Int32 × mm)) (h : fX13_readOne Γ.2 σ x0 x1 x2 = some r) : CT l G yX13_readOne cX13_readOne 3 (some .boolean) d 0 0 [.ref (G.2.1 x0), .int x1, .int x2] Γ σ (PP (some (.int r.1)) Γ r.2) := by
  refine CT.ofWP (by decide) (Nat.le_of_ble_eq_true rfl) ?_
  have hQ : PP (some (.int r.1)) Γ r.2 (some (.int r.1)) Γ r.2 := PP.self
  generalize PP (some (.int r.1)) Γ r.2 = Q at hQ ⊢
  show WP l G yX13_readOne cX13_readOne 3 (some .boolean) d 0 0 Q 0 0 0 [(0, .ref (G.2.1 x0)), (1, .int x1), (2, .int x2)] [] Γ σ
  unfold fX13_readOne at h
  refine r_aload_n 0 dX13_readOne_0 rfl ?_
  refine r_iload_n 1 dX13_readOne_1 rfl ?_
  refine r_iload_n 2 dX13_readOne_2 rfl ?_
  obtain ⟨v1, τ2, ev1, h⟩ := bd2_some h
  refine q_cVI [.int x1, .int x2] dX13_readOne_3 cv_X13_162 (ci := 12) rfl rfl t0 rfl rfl (Nat.le_of_ble_eq_true rfl) (by omega) (kX13_isOne (d - 1) (by omega) x0 x1 x2 t0 (v1, τ2) ev1) ?_
  refine r_if_ne 11 dX13_readOne_6 (by decide) h (fun _ h => ?_) (fun _ h => ?_)
  · refine r_aload_n 0 dX13_readOne_11 rfl ?_
    obtain ⟨τ3, eτ3, h⟩ := bd0_some h
    refine q_cVV [] dX13_readOne_12 cv_X13_82 (ci := 12) rfl rfl t0 rfl rfl (Nat.le_of_ble_eq_true rfl) (by omega) (kX13_go (d - 1) (by omega) x0 t0 τ3 eτ3) ?_
    refine r_iconst (v := 1) dX13_readOne_15 (by decide) ?_
    obtain rfl := Option.some.inj h
    exact r_zreturn dX13_readOne_16 rfl (by decide) hQ (Nat.le_refl _) (Nat.le_refl _)
  · refine r_iconst (v := 0) dX13_readOne_9 (by decide) ?_
    obtain rfl := Option.some.inj h
    exact r_zreturn dX13_readOne_10 rfl (by decide) hQ (Nat.le_refl _) (Nat.le_refl _)
theorem kX13_readFirst {l : Launch} {G : gg} {Γ : ly} {σ : mm} (d : Nat) (hdd : 2 ≤ d) (x0 : Nat) (x1 : Int32) (x2 : Int32) (t0 : tyOK Γ (0, 12) x0) (r : (Int32 × mm)) (h : fX13_readFirst Γ.2 σ x0 x1 x2 = some r) : CT l G yX13_readFirst cX13_readFirst 3 (some .boolean) d 0 0 [.ref (G.2.1 x0), .int x1, .int x2] Γ σ (PP (some (.int r.1)) Γ r.2) := by
  refine CT.ofWP (by decide) (Nat.le_of_ble_eq_true rfl) ?_
  have hQ : PP (some (.int r.1)) Γ r.2 (some (.int r.1)) Γ r.2 := PP.self
  generalize PP (some (.int r.1)) Γ r.2 = Q at hQ ⊢
  show WP l G yX13_readFirst cX13_readFirst 3 (some .boolean) d 0 0 Q 0 0 0 [(0, .ref (G.2.1 x0)), (1, .int x1), (2, .int x2)] [] Γ σ
  unfold fX13_readFirst at h
  refine r_aload_n 0 dX13_readFirst_0 rfl ?_
  refine q_getR (e9 := (1, 0)) dX13_readFirst_1 fd_X13_101 t0 rfl h (fun r1 tr1 h => ?_)
  refine r_iload_n 1 dX13_readFirst_4 rfl ?_
  refine q_iald dX13_readFirst_5 tr1 h (fun v2 h => ?_)
  refine r_iload_n 2 dX13_readFirst_6 rfl ?_
  refine r_icmp_ne 16 dX13_readFirst_7 (by decide) h (fun _ h => ?_) (fun _ h => ?_)
  · refine r_aload_n 0 dX13_readFirst_16 rfl ?_
    obtain ⟨τ3, eτ3, h⟩ := bd0_some h
    refine q_cVV [] dX13_readFirst_17 cv_X13_82 (ci := 12) rfl rfl t0 rfl rfl (Nat.le_of_ble_eq_true rfl) (by omega) (kX13_go (d - 1) (by omega) x0 t0 τ3 eτ3) ?_
    refine r_iconst (v := 1) dX13_readFirst_20 (by decide) ?_
    obtain rfl := Option.some.inj h
    exact r_zreturn dX13_readFirst_21 rfl (by decide) hQ (Nat.le_refl _) (Nat.le_refl _)
  · refine r_aload_n 0 dX13_readFirst_10 rfl ?_
    refine r_iconst (v := 4) dX13_readFirst_11 (by decide) ?_
    obtain ⟨v4, τ5, ev4, h⟩ := bd2_some h
    refine q_cVI [.int (4 : Int32)] dX13_readFirst_12 cv_X13_72 (ci := 12) rfl rfl t0 rfl rfl (Nat.le_of_ble_eq_true rfl) (by omega) (kX13_bad (d - 1) (by omega) x0 (4 : Int32) t0 (v4, τ5) ev4) ?_
    obtain ⟨hbz, h⟩ := rZ_some h
    obtain rfl := Option.some.inj h
    exact r_zreturn dX13_readFirst_15 rfl hbz hQ (Nat.le_refl _) (Nat.le_refl _)
theorem tX13_put_b14 {l : Launch} {G : gg} {Γ : ly} {d : Nat} {Q : Option Value → ly → mm → Prop} (hdd : 0 ≤ d) (σ : mm) (x2 : Int32)    (r : (Int32 × mm)) (h : fX13_put_b14 Γ.2 σ x2 = some r) (hQ : Q (some (.int r.1)) Γ r.2) : WP l G yX13_put cX13_put 3 (some .boolean) d 0 0 Q 0 0 14 [(2, .int x2)] [] Γ σ := by
  unfold fX13_put_b14 at h
  refine r_iload_n 0 dX13_put_14 rfl ?_
  obtain ⟨hbz, h⟩ := rZ_some h
  obtain rfl := Option.some.inj h
  exact r_zreturn dX13_put_15 rfl hbz hQ (Nat.le_refl _) (Nat.le_refl _)
theorem kX13_put {l : Launch} {G : gg} {Γ : ly} {σ : mm} (d : Nat) (hdd : 0 ≤ d) (x0 : Nat) (x1 : Int32) (x2 : Int32) (t0 : tyOK Γ (0, 12) x0) (r : (Int32 × mm)) (h : fX13_put Γ.2 σ x0 x1 x2 = some r) : CT l G yX13_put cX13_put 3 (some .boolean) d 0 0 [.ref (G.2.1 x0), .int x1, .int x2] Γ σ (PP (some (.int r.1)) Γ r.2) := by
  refine CT.ofWP (by decide) (Nat.le_of_ble_eq_true rfl) ?_
  have hQ : PP (some (.int r.1)) Γ r.2 (some (.int r.1)) Γ r.2 := PP.self
  generalize PP (some (.int r.1)) Γ r.2 = Q at hQ ⊢
  show WP l G yX13_put cX13_put 3 (some .boolean) d 0 0 Q 0 0 0 [(0, .ref (G.2.1 x0)), (1, .int x1), (2, .int x2)] [] Γ σ
  unfold fX13_put at h
  refine r_iload_n 2 dX13_put_0 rfl ?_
  refine r_if_eq 14 dX13_put_1 (by decide) h (fun _ h => ?_) (fun _ h => ?_)
  · refine r_pick [2] rfl ?_
    exact tX13_put_b14 hdd σ x2  _ h hQ
  · refine r_aload_n 0 dX13_put_4 rfl ?_
    refine q_getR (e9 := (1, 0)) dX13_put_5 fd_X13_101 t0 rfl h (fun r1 tr1 h => ?_)
    refine r_iload_n 1 dX13_put_8 rfl ?_
    refine r_aload_n 0 dX13_put_9 rfl ?_
    refine r_getI dX13_put_10 fd_X13_79 t0 ?_
    refine q_iast dX13_put_13 tr1 h (fun τ2 h => ?_)
    refine r_pick [2] rfl ?_
    exact tX13_put_b14 hdd τ2 x2  _ h hQ
theorem tX13_readPerson_b81 {l : Launch} {G : gg} {Γ : ly} {d : Nat} {Q : Option Value → ly → mm → Prop} (hdd : 4 ≤ d) (σ : mm)     (r : (Int32 × mm)) (h : fX13_readPerson_b81 Γ.2 σ  = some r) (hQ : Q (some (.int r.1)) Γ r.2) : WP l G yX13_readPerson cX13_readPerson 2 (some .boolean) d 0 0 Q 0 0 81 [] [] Γ σ := by
  unfold fX13_readPerson_b81 at h
  refine r_iconst (v := 0) dX13_readPerson_81 (by decide) ?_
  obtain rfl := Option.some.inj h
  exact r_zreturn dX13_readPerson_82 rfl (by decide) hQ (Nat.le_refl _) (Nat.le_refl _)
theorem kX13_readPerson {l : Launch} {G : gg} {Γ : ly} {σ : mm} (d : Nat) (hdd : 4 ≤ d) (x0 : Nat) (t0 : tyOK Γ (0, 12) x0) (r : (Int32 × mm)) (h : fX13_readPerson Γ.2 σ x0 = some r) : CT l G yX13_readPerson cX13_readPerson 2 (some .boolean) d 0 0 [.ref (G.2.1 x0)] Γ σ (PP (some (.int r.1)) Γ r.2) := by
  refine CT.ofWP (by decide) (Nat.le_of_ble_eq_true rfl) ?_
  have hQ : PP (some (.int r.1)) Γ r.2 (some (.int r.1)) Γ r.2 := PP.self
  generalize PP (some (.int r.1)) Γ r.2 = Q at hQ ⊢
  show WP l G yX13_readPerson cX13_readPerson 2 (some .boolean) d 0 0 Q 0 0 0 [(0, .ref (G.2.1 x0))] [] Γ σ
  unfold fX13_readPerson at h
  refine r_aload_n 0 dX13_readPerson_0 rfl ?_
  refine r_iconst (v := 0) dX13_readPerson_1 (by decide) ?_
  refine r_bipush (v := 8) dX13_readPerson_2 (by decide) ?_
  obtain ⟨v1, τ2, ev1, h⟩ := bd2_some h
  refine q_cVI [.int (0 : Int32), .int (8 : Int32)] dX13_readPerson_4 cv_X13_166 (ci := 12) rfl rfl t0 rfl rfl (Nat.le_of_ble_eq_true rfl) (by omega) (kX13_readFirst (d - 1) (by omega) x0 (0 : Int32) (8 : Int32) t0 (v1, τ2) ev1) ?_
  refine r_if_ne 12 dX13_readPerson_7 (by decide) h (fun _ h => ?_) (fun _ h => ?_)
  · refine r_aload_n 0 dX13_readPerson_12 rfl ?_
    refine q_getR (e9 := (1, 0)) dX13_readPerson_13 fd_X13_101 t0 rfl h (fun r3 tr3 h => ?_)
    refine r_iconst (v := 0) dX13_readPerson_16 (by decide) ?_
    refine q_iald dX13_readPerson_17 tr3 h (fun v4 h => ?_)
    refine r_istore_n (lv' := [(1, .int v4), (0, .ref (G.2.1 x0))]) dX13_readPerson_18 (by decide) rfl ?_
    refine r_aload_n 1 dX13_readPerson_19 rfl ?_
    refine r_iload_n 0 dX13_readPerson_20 rfl ?_
    obtain ⟨v5, τ6, ev5, h⟩ := bd2_some h
    refine q_cVI [.int v4] dX13_readPerson_21 cv_X13_169 (ci := 12) rfl rfl t0 rfl rfl (Nat.le_of_ble_eq_true rfl) (by omega) (kX13_readNew (d - 1) (by omega) x0 v4 t0 (v5, τ6) ev5) ?_
    refine r_if_eq 81 dX13_readPerson_24 (by decide) h (fun _ h => ?_) (fun _ h => ?_)
    · refine r_pick [] rfl ?_
      exact tX13_readPerson_b81 hdd τ6  _ h hQ
    · refine r_aload_n 1 dX13_readPerson_27 rfl ?_
      refine r_bipush (v := 8) dX13_readPerson_28 (by decide) ?_
      refine r_iload_n 0 dX13_readPerson_30 rfl ?_
      refine r_iadd dX13_readPerson_31 ?_
      refine r_aload_n 1 dX13_readPerson_32 rfl ?_
      refine r_iconst (v := 0) dX13_readPerson_33 (by decide) ?_
      refine r_bipush (v := 23) dX13_readPerson_34 (by decide) ?_
      obtain ⟨v7, τ8, ev7, h⟩ := bd2_some h
      refine q_cVI [.int (0 : Int32), .int (23 : Int32)] dX13_readPerson_36 cv_X13_172 (ci := 12) rfl rfl t0 rfl rfl (Nat.le_of_ble_eq_true rfl) (by omega) (kX13_readNumber (d - 1) (by omega) x0 (0 : Int32) (23 : Int32) t0 (v7, τ8) ev7) ?_
      obtain ⟨v9, τ10, ev9, h⟩ := bd2_some h
      refine q_cVI [.int ((8 : Int32) + v4), .int v7] dX13_readPerson_39 cv_X13_175 (ci := 12) rfl rfl t0 rfl rfl (Nat.le_of_ble_eq_true rfl) (by omega) (kX13_put (d - 1) (by omega) x0 ((8 : Int32) + v4) v7 t0 (v9, τ10) ev9) ?_
      refine r_if_eq 81 dX13_readPerson_42 (by decide) h (fun _ h => ?_) (fun _ h => ?_)
      · refine r_pick [] rfl ?_
        exact tX13_readPerson_b81 hdd τ10  _ h hQ
      · refine r_aload_n 1 dX13_readPerson_45 rfl ?_
        refine r_bipush (v := 16) dX13_readPerson_46 (by decide) ?_
        refine r_iload_n 0 dX13_readPerson_48 rfl ?_
        refine r_iadd dX13_readPerson_49 ?_
        refine r_aload_n 1 dX13_readPerson_50 rfl ?_
        refine r_iconst (v := 0) dX13_readPerson_51 (by decide) ?_
        refine r_bipush (v := 23) dX13_readPerson_52 (by decide) ?_
        obtain ⟨v11, τ12, ev11, h⟩ := bd2_some h
        refine q_cVI [.int (0 : Int32), .int (23 : Int32)] dX13_readPerson_54 cv_X13_172 (ci := 12) rfl rfl t0 rfl rfl (Nat.le_of_ble_eq_true rfl) (by omega) (kX13_readNumber (d - 1) (by omega) x0 (0 : Int32) (23 : Int32) t0 (v11, τ12) ev11) ?_
        obtain ⟨v13, τ14, ev13, h⟩ := bd2_some h
        refine q_cVI [.int ((16 : Int32) + v4), .int v11] dX13_readPerson_57 cv_X13_175 (ci := 12) rfl rfl t0 rfl rfl (Nat.le_of_ble_eq_true rfl) (by omega) (kX13_put (d - 1) (by omega) x0 ((16 : Int32) + v4) v11 t0 (v13, τ14) ev13) ?_
        refine r_if_eq 81 dX13_readPerson_60 (by decide) h (fun _ h => ?_) (fun _ h => ?_)
        · refine r_pick [] rfl ?_
          exact tX13_readPerson_b81 hdd τ14  _ h hQ
        · refine r_aload_n 1 dX13_readPerson_63 rfl ?_
          refine r_bipush (v := 24) dX13_readPerson_64 (by decide) ?_
          refine r_iload_n 0 dX13_readPerson_66 rfl ?_
          refine r_iadd dX13_readPerson_67 ?_
          refine r_aload_n 1 dX13_readPerson_68 rfl ?_
          refine r_iconst (v := 0) dX13_readPerson_69 (by decide) ?_
          refine r_bipush (v := 99) dX13_readPerson_70 (by decide) ?_
          obtain ⟨v15, τ16, ev15, h⟩ := bd2_some h
          refine q_cVI [.int (0 : Int32), .int (99 : Int32)] dX13_readPerson_72 cv_X13_172 (ci := 12) rfl rfl t0 rfl rfl (Nat.le_of_ble_eq_true rfl) (by omega) (kX13_readNumber (d - 1) (by omega) x0 (0 : Int32) (99 : Int32) t0 (v15, τ16) ev15) ?_
          obtain ⟨v17, τ18, ev17, h⟩ := bd2_some h
          refine q_cVI [.int ((24 : Int32) + v4), .int v15] dX13_readPerson_75 cv_X13_175 (ci := 12) rfl rfl t0 rfl rfl (Nat.le_of_ble_eq_true rfl) (by omega) (kX13_put (d - 1) (by omega) x0 ((24 : Int32) + v4) v15 t0 (v17, τ18) ev17) ?_
          refine r_if_ne 83 dX13_readPerson_78 (by decide) h (fun _ h => ?_) (fun _ h => ?_)
          · refine r_aload_n 1 dX13_readPerson_83 rfl ?_
            refine q_getR (e9 := (1, 0)) dX13_readPerson_84 fd_X13_101 t0 rfl h (fun r19 tr19 h => ?_)
            refine r_iconst (v := 0) dX13_readPerson_87 (by decide) ?_
            refine r_dup2 dX13_readPerson_88 rfl rfl ?_
            refine q_iald dX13_readPerson_89 tr19 h (fun v20 h => ?_)
            refine r_iconst (v := 1) dX13_readPerson_90 (by decide) ?_
            refine r_iadd dX13_readPerson_91 ?_
            refine q_iast dX13_readPerson_92 tr19 h (fun τ21 h => ?_)
            refine r_iconst (v := 1) dX13_readPerson_93 (by decide) ?_
            obtain rfl := Option.some.inj h
            exact r_zreturn dX13_readPerson_94 rfl (by decide) hQ (Nat.le_refl _) (Nat.le_refl _)
          · refine r_pick [] rfl ?_
            exact tX13_readPerson_b81 hdd τ18  _ h hQ
  · refine r_iconst (v := 0) dX13_readPerson_10 (by decide) ?_
    obtain rfl := Option.some.inj h
    exact r_zreturn dX13_readPerson_11 rfl (by decide) hQ (Nat.le_refl _) (Nat.le_refl _)
theorem kX13_readFonder {l : Launch} {G : gg} {Γ : ly} {σ : mm} (d : Nat) (hdd : 4 ≤ d) (x0 : Nat) (x1 : Int32) (t0 : tyOK Γ (0, 12) x0) (r : (Int32 × mm)) (h : fX13_readFonder Γ.2 σ x0 x1 = some r) : CT l G yX13_readFonder cX13_readFonder 3 (some .boolean) d 0 0 [.ref (G.2.1 x0), .int x1] Γ σ (PP (some (.int r.1)) Γ r.2) := by
  refine CT.ofWP (by decide) (Nat.le_of_ble_eq_true rfl) ?_
  have hQ : PP (some (.int r.1)) Γ r.2 (some (.int r.1)) Γ r.2 := PP.self
  generalize PP (some (.int r.1)) Γ r.2 = Q at hQ ⊢
  show WP l G yX13_readFonder cX13_readFonder 3 (some .boolean) d 0 0 Q 0 0 0 [(0, .ref (G.2.1 x0)), (1, .int x1)] [] Γ σ
  unfold fX13_readFonder at h
  refine r_aload_n 0 dX13_readFonder_0 rfl ?_
  obtain ⟨τ1, eτ1, h⟩ := bd0_some h
  refine q_cVV [] dX13_readFonder_1 cv_X13_82 (ci := 12) rfl rfl t0 rfl rfl (Nat.le_of_ble_eq_true rfl) (by omega) (kX13_go (d - 1) (by omega) x0 t0 τ1 eτ1) ?_
  refine r_aload_n 0 dX13_readFonder_4 rfl ?_
  refine r_iconst (v := 0) dX13_readFonder_5 (by decide) ?_
  refine r_aload_n 0 dX13_readFonder_6 rfl ?_
  refine q_getR (e9 := (1, 0)) dX13_readFonder_7 fd_X13_101 t0 rfl h (fun r2 tr2 h => ?_)
  refine r_iconst (v := 0) dX13_readFonder_10 (by decide) ?_
  refine q_iald dX13_readFonder_11 tr2 h (fun v3 h => ?_)
  obtain ⟨v4, τ5, ev4, h⟩ := bd2_some h
  refine q_cVI [.int (0 : Int32), .int v3] dX13_readFonder_12 cv_X13_162 (ci := 12) rfl rfl t0 rfl rfl (Nat.le_of_ble_eq_true rfl) (by omega) (kX13_isOne (d - 1) (by omega) x0 (0 : Int32) v3 t0 (v4, τ5) ev4) ?_
  refine r_if_ne 20 dX13_readFonder_15 (by decide) h (fun _ h => ?_) (fun _ h => ?_)
  · refine r_aload_n 0 dX13_readFonder_20 rfl ?_
    refine r_getI dX13_readFonder_21 fd_X13_79 t0 ?_
    refine q_nmI h (fun v6 h => ?_)
    refine r_istore_n (lv' := [(2, .int v6), (0, .ref (G.2.1 x0)), (1, .int x1)]) dX13_readFonder_24 (by decide) rfl ?_
    refine r_aload_n 1 dX13_readFonder_25 rfl ?_
    refine q_getR (e9 := (1, 0)) dX13_readFonder_26 fd_X13_101 t0 rfl h (fun r7 tr7 h => ?_)
    refine r_iload_n 2 dX13_readFonder_29 rfl ?_
    refine r_iload_n 0 dX13_readFonder_30 rfl ?_
    refine r_iadd dX13_readFonder_31 ?_
    refine q_iald dX13_readFonder_32 tr7 h (fun v8 h => ?_)
    refine r_if_le 42 dX13_readFonder_33 (by decide) h (fun _ h => ?_) (fun _ h => ?_)
    · refine r_aload_n 1 dX13_readFonder_42 rfl ?_
      obtain ⟨τ9, eτ9, h⟩ := bd0_some h
      refine q_cVV [] dX13_readFonder_43 cv_X13_82 (ci := 12) rfl rfl t0 rfl rfl (Nat.le_of_ble_eq_true rfl) (by omega) (kX13_go (d - 1) (by omega) x0 t0 τ9 eτ9) ?_
      refine r_aload_n 1 dX13_readFonder_46 rfl ?_
      refine r_iload_n 2 dX13_readFonder_47 rfl ?_
      refine r_iload_n 0 dX13_readFonder_48 rfl ?_
      refine r_iadd dX13_readFonder_49 ?_
      refine r_aload_n 1 dX13_readFonder_50 rfl ?_
      refine r_iconst (v := 1) dX13_readFonder_51 (by decide) ?_
      refine r_bipush (v := 9) dX13_readFonder_52 (by decide) ?_
      obtain ⟨v10, τ11, ev10, h⟩ := bd2_some h
      refine q_cVI [.int (1 : Int32), .int (9 : Int32)] dX13_readFonder_54 cv_X13_172 (ci := 12) rfl rfl t0 rfl rfl (Nat.le_of_ble_eq_true rfl) (by omega) (kX13_readNumber (d - 1) (by omega) x0 (1 : Int32) (9 : Int32) t0 (v10, τ11) ev10) ?_
      obtain ⟨v12, τ13, ev12, h⟩ := bd2_some h
      refine q_cVI [.int (x1 + v6), .int v10] dX13_readFonder_57 cv_X13_175 (ci := 12) rfl rfl t0 rfl rfl (Nat.le_of_ble_eq_true rfl) (by omega) (kX13_put (d - 1) (by omega) x0 (x1 + v6) v10 t0 (v12, τ13) ev12) ?_
      obtain ⟨hbz, h⟩ := rZ_some h
      obtain rfl := Option.some.inj h
      exact r_zreturn dX13_readFonder_60 rfl hbz hQ (Nat.le_refl _) (Nat.le_refl _)
    · refine r_aload_n 1 dX13_readFonder_36 rfl ?_
      refine r_iconst (v := 3) dX13_readFonder_37 (by decide) ?_
      obtain ⟨v14, τ15, ev14, h⟩ := bd2_some h
      refine q_cVI [.int (3 : Int32)] dX13_readFonder_38 cv_X13_72 (ci := 12) rfl rfl t0 rfl rfl (Nat.le_of_ble_eq_true rfl) (by omega) (kX13_bad (d - 1) (by omega) x0 (3 : Int32) t0 (v14, τ15) ev14) ?_
      obtain ⟨hbz, h⟩ := rZ_some h
      obtain rfl := Option.some.inj h
      exact r_zreturn dX13_readFonder_41 rfl hbz hQ (Nat.le_refl _) (Nat.le_refl _)
  · refine r_iconst (v := 0) dX13_readFonder_18 (by decide) ?_
    obtain rfl := Option.some.inj h
    exact r_zreturn dX13_readFonder_19 rfl (by decide) hQ (Nat.le_refl _) (Nat.le_refl _)
theorem tX13_readGlass_b43 {l : Launch} {G : gg} {Γ : ly} {d : Nat} {Q : Option Value → ly → mm → Prop} (hdd : 4 ≤ d) (σ : mm)     (r : (Int32 × mm)) (h : fX13_readGlass_b43 Γ.2 σ  = some r) (hQ : Q (some (.int r.1)) Γ r.2) : WP l G yX13_readGlass cX13_readGlass 4 (some .boolean) d 0 0 Q 0 0 43 [] [] Γ σ := by
  unfold fX13_readGlass_b43 at h
  refine r_iconst (v := 0) dX13_readGlass_43 (by decide) ?_
  obtain rfl := Option.some.inj h
  exact r_zreturn dX13_readGlass_44 rfl (by decide) hQ (Nat.le_refl _) (Nat.le_refl _)
theorem tX13_readGlass_b112 {l : Launch} {G : gg} {Γ : ly} {d : Nat} {Q : Option Value → ly → mm → Prop} (hdd : 4 ≤ d) (σ : mm) (x0 : Nat)  (t0 : tyOK Γ (0, 12) x0)  (r : (Int32 × mm)) (h : fX13_readGlass_b112 Γ.2 σ x0 = some r) (hQ : Q (some (.int r.1)) Γ r.2) : WP l G yX13_readGlass cX13_readGlass 4 (some .boolean) d 0 0 Q 0 0 112 [(0, .ref (G.2.1 x0))] [] Γ σ := by
  unfold fX13_readGlass_b112 at h
  refine r_aload_n 0 dX13_readGlass_112 rfl ?_
  refine r_iconst (v := 3) dX13_readGlass_113 (by decide) ?_
  obtain ⟨v1, τ2, ev1, h⟩ := bd2_some h
  refine q_cVI [.int (3 : Int32)] dX13_readGlass_114 cv_X13_72 (ci := 12) rfl rfl t0 rfl rfl (Nat.le_of_ble_eq_true rfl) (by omega) (kX13_bad (d - 1) (by omega) x0 (3 : Int32) t0 (v1, τ2) ev1) ?_
  obtain ⟨hbz, h⟩ := rZ_some h
  obtain rfl := Option.some.inj h
  exact r_zreturn dX13_readGlass_117 rfl hbz hQ (Nat.le_refl _) (Nat.le_refl _)
theorem tX13_readGlass_b159 {l : Launch} {G : gg} {Γ : ly} {d : Nat} {Q : Option Value → ly → mm → Prop} (hdd : 4 ≤ d) (σ : mm)     (r : (Int32 × mm)) (h : fX13_readGlass_b159 Γ.2 σ  = some r) (hQ : Q (some (.int r.1)) Γ r.2) : WP l G yX13_readGlass cX13_readGlass 4 (some .boolean) d 0 0 Q 0 0 159 [] [] Γ σ := by
  unfold fX13_readGlass_b159 at h
  refine r_iconst (v := 0) dX13_readGlass_159 (by decide) ?_
  obtain rfl := Option.some.inj h
  exact r_zreturn dX13_readGlass_160 rfl (by decide) hQ (Nat.le_refl _) (Nat.le_refl _)
theorem kX13_readGlass {l : Launch} {G : gg} {Γ : ly} {σ : mm} (d : Nat) (hdd : 4 ≤ d) (x0 : Nat) (t0 : tyOK Γ (0, 12) x0) (r : (Int32 × mm)) (h : fX13_readGlass Γ.2 σ x0 = some r) : CT l G yX13_readGlass cX13_readGlass 4 (some .boolean) d 0 0 [.ref (G.2.1 x0)] Γ σ (PP (some (.int r.1)) Γ r.2) := by
  refine CT.ofWP (by decide) (Nat.le_of_ble_eq_true rfl) ?_
  have hQ : PP (some (.int r.1)) Γ r.2 (some (.int r.1)) Γ r.2 := PP.self
  generalize PP (some (.int r.1)) Γ r.2 = Q at hQ ⊢
  show WP l G yX13_readGlass cX13_readGlass 4 (some .boolean) d 0 0 Q 0 0 0 [(0, .ref (G.2.1 x0))] [] Γ σ
  unfold fX13_readGlass at h
  refine r_aload_n 0 dX13_readGlass_0 rfl ?_
  refine r_iconst (v := 1) dX13_readGlass_1 (by decide) ?_
  refine r_iconst (v := 4) dX13_readGlass_2 (by decide) ?_
  obtain ⟨v1, τ2, ev1, h⟩ := bd2_some h
  refine q_cVI [.int (1 : Int32), .int (4 : Int32)] dX13_readGlass_3 cv_X13_166 (ci := 12) rfl rfl t0 rfl rfl (Nat.le_of_ble_eq_true rfl) (by omega) (kX13_readFirst (d - 1) (by omega) x0 (1 : Int32) (4 : Int32) t0 (v1, τ2) ev1) ?_
  refine r_if_ne 11 dX13_readGlass_6 (by decide) h (fun _ h => ?_) (fun _ h => ?_)
  · refine r_aload_n 0 dX13_readGlass_11 rfl ?_
    refine q_getR (e9 := (1, 0)) dX13_readGlass_12 fd_X13_101 t0 rfl h (fun r3 tr3 h => ?_)
    refine r_iconst (v := 1) dX13_readGlass_15 (by decide) ?_
    refine q_iald dX13_readGlass_16 tr3 h (fun v4 h => ?_)
    refine r_istore_n (lv' := [(1, .int v4), (0, .ref (G.2.1 x0))]) dX13_readGlass_17 (by decide) rfl ?_
    refine r_aload_n 1 dX13_readGlass_18 rfl ?_
    refine r_bipush (v := 8) dX13_readGlass_19 (by decide) ?_
    refine r_iload_n 0 dX13_readGlass_21 rfl ?_
    refine r_iadd dX13_readGlass_22 ?_
    obtain ⟨v5, τ6, ev5, h⟩ := bd2_some h
    refine q_cVI [.int ((8 : Int32) + v4)] dX13_readGlass_23 cv_X13_169 (ci := 12) rfl rfl t0 rfl rfl (Nat.le_of_ble_eq_true rfl) (by omega) (kX13_readNew (d - 1) (by omega) x0 ((8 : Int32) + v4) t0 (v5, τ6) ev5) ?_
    refine r_if_eq 43 dX13_readGlass_26 (by decide) h (fun _ h => ?_) (fun _ h => ?_)
    · refine r_pick [] rfl ?_
      exact tX13_readGlass_b43 hdd τ6  _ h hQ
    · refine r_aload_n 1 dX13_readGlass_29 rfl ?_
      refine r_iconst (v := 0) dX13_readGlass_30 (by decide) ?_
      refine r_aload_n 1 dX13_readGlass_31 rfl ?_
      refine q_getR (e9 := (1, 0)) dX13_readGlass_32 fd_X13_101 t0 rfl h (fun r7 tr7 h => ?_)
      refine r_iconst (v := 0) dX13_readGlass_35 (by decide) ?_
      refine q_iald dX13_readGlass_36 tr7 h (fun v8 h => ?_)
      obtain ⟨v9, τ10, ev9, h⟩ := bd2_some h
      refine q_cVI [.int (0 : Int32), .int v8] dX13_readGlass_37 cv_X13_162 (ci := 12) rfl rfl t0 rfl rfl (Nat.le_of_ble_eq_true rfl) (by omega) (kX13_isOne (d - 1) (by omega) x0 (0 : Int32) v8 t0 (v9, τ10) ev9) ?_
      refine r_if_ne 45 dX13_readGlass_40 (by decide) h (fun _ h => ?_) (fun _ h => ?_)
      · refine r_aload_n 1 dX13_readGlass_45 rfl ?_
        refine r_getI dX13_readGlass_46 fd_X13_79 t0 ?_
        refine q_nmI h (fun v11 h => ?_)
        refine r_istore_n (lv' := [(2, .int v11), (1, .int v4), (0, .ref (G.2.1 x0))]) dX13_readGlass_49 (by decide) rfl ?_
        refine r_aload_n 2 dX13_readGlass_50 rfl ?_
        refine q_getR (e9 := (1, 0)) dX13_readGlass_51 fd_X13_101 t0 rfl h (fun r12 tr12 h => ?_)
        refine r_bipush (v := 48) dX13_readGlass_54 (by decide) ?_
        refine r_iload_n 0 dX13_readGlass_56 rfl ?_
        refine r_iadd dX13_readGlass_57 ?_
        refine q_iald dX13_readGlass_58 tr12 h (fun v13 h => ?_)
        refine r_iconst (v := -1) dX13_readGlass_59 (by decide) ?_
        refine r_icmp_eq 69 dX13_readGlass_60 (by decide) h (fun _ h => ?_) (fun _ h => ?_)
        · refine r_aload_n 2 dX13_readGlass_69 rfl ?_
          obtain ⟨τ14, eτ14, h⟩ := bd0_some h
          refine q_cVV [] dX13_readGlass_70 cv_X13_82 (ci := 12) rfl rfl t0 rfl rfl (Nat.le_of_ble_eq_true rfl) (by omega) (kX13_go (d - 1) (by omega) x0 t0 τ14 eτ14) ?_
          refine r_aload_n 2 dX13_readGlass_73 rfl ?_
          refine r_iconst (v := 0) dX13_readGlass_74 (by decide) ?_
          refine r_aload_n 2 dX13_readGlass_75 rfl ?_
          refine q_getR (e9 := (1, 0)) dX13_readGlass_76 fd_X13_101 t0 rfl h (fun r15 tr15 h => ?_)
          refine r_iconst (v := 0) dX13_readGlass_79 (by decide) ?_
          refine q_iald dX13_readGlass_80 tr15 h (fun v16 h => ?_)
          obtain ⟨v17, τ18, ev17, h⟩ := bd2_some h
          refine q_cVI [.int (0 : Int32), .int v16] dX13_readGlass_81 cv_X13_162 (ci := 12) rfl rfl t0 rfl rfl (Nat.le_of_ble_eq_true rfl) (by omega) (kX13_isOne (d - 1) (by omega) x0 (0 : Int32) v16 t0 (v17, τ18) ev17) ?_
          refine r_if_ne 89 dX13_readGlass_84 (by decide) h (fun _ h => ?_) (fun _ h => ?_)
          · refine r_aload_n 2 dX13_readGlass_89 rfl ?_
            refine r_getI dX13_readGlass_90 fd_X13_79 t0 ?_
            refine q_nmI h (fun v19 h => ?_)
            refine r_istore_n (lv' := [(3, .int v19), (2, .int v11), (1, .int v4), (0, .ref (G.2.1 x0))]) dX13_readGlass_93 (by decide) rfl ?_
            refine r_iload_n 1 dX13_readGlass_94 rfl ?_
            refine r_iload_n 0 dX13_readGlass_95 rfl ?_
            refine r_icmp_eq 112 dX13_readGlass_96 (by decide) h (fun _ h => ?_) (fun _ h => ?_)
            · refine r_pick [3] rfl ?_
              exact tX13_readGlass_b112 hdd τ18 x0 t0 _ h hQ
            · refine r_aload_n 3 dX13_readGlass_99 rfl ?_
              refine q_getR (e9 := (1, 0)) dX13_readGlass_100 fd_X13_101 t0 rfl h (fun r20 tr20 h => ?_)
              refine r_bipush (v := 48) dX13_readGlass_103 (by decide) ?_
              refine r_iload_n 0 dX13_readGlass_105 rfl ?_
              refine r_iadd dX13_readGlass_106 ?_
              refine q_iald dX13_readGlass_107 tr20 h (fun v21 h => ?_)
              refine r_iconst (v := -1) dX13_readGlass_108 (by decide) ?_
              refine r_icmp_eq 118 dX13_readGlass_109 (by decide) h (fun _ h => ?_) (fun _ h => ?_)
              · refine r_aload_n 3 dX13_readGlass_118 rfl ?_
                obtain ⟨τ22, eτ22, h⟩ := bd0_some h
                refine q_cVV [] dX13_readGlass_119 cv_X13_82 (ci := 12) rfl rfl t0 rfl rfl (Nat.le_of_ble_eq_true rfl) (by omega) (kX13_go (d - 1) (by omega) x0 t0 τ22 eτ22) ?_
                refine r_aload_n 3 dX13_readGlass_122 rfl ?_
                refine r_bipush (v := 64) dX13_readGlass_123 (by decide) ?_
                refine r_iload_n 2 dX13_readGlass_125 rfl ?_
                refine r_iadd dX13_readGlass_126 ?_
                refine r_aload_n 3 dX13_readGlass_127 rfl ?_
                refine r_iconst (v := 1) dX13_readGlass_128 (by decide) ?_
                refine r_sipush (v := 250) dX13_readGlass_129 (by decide) ?_
                obtain ⟨v23, τ24, ev23, h⟩ := bd2_some h
                refine q_cVI [.int (1 : Int32), .int (250 : Int32)] dX13_readGlass_132 cv_X13_172 (ci := 12) rfl rfl t0 rfl rfl (Nat.le_of_ble_eq_true rfl) (by omega) (kX13_readNumber (d - 1) (by omega) x0 (1 : Int32) (250 : Int32) t0 (v23, τ24) ev23) ?_
                obtain ⟨v25, τ26, ev25, h⟩ := bd2_some h
                refine q_cVI [.int ((64 : Int32) + v4), .int v23] dX13_readGlass_135 cv_X13_175 (ci := 12) rfl rfl t0 rfl rfl (Nat.le_of_ble_eq_true rfl) (by omega) (kX13_put (d - 1) (by omega) x0 ((64 : Int32) + v4) v23 t0 (v25, τ26) ev25) ?_
                refine r_if_eq 159 dX13_readGlass_138 (by decide) h (fun _ h => ?_) (fun _ h => ?_)
                · refine r_pick [] rfl ?_
                  exact tX13_readGlass_b159 hdd τ26  _ h hQ
                · refine r_aload_n 3 dX13_readGlass_141 rfl ?_
                  refine r_bipush (v := 68) dX13_readGlass_142 (by decide) ?_
                  refine r_iload_n 2 dX13_readGlass_144 rfl ?_
                  refine r_iadd dX13_readGlass_145 ?_
                  refine r_aload_n 3 dX13_readGlass_146 rfl ?_
                  refine r_iconst (v := 1) dX13_readGlass_147 (by decide) ?_
                  refine r_bipush (v := 9) dX13_readGlass_148 (by decide) ?_
                  obtain ⟨v27, τ28, ev27, h⟩ := bd2_some h
                  refine q_cVI [.int (1 : Int32), .int (9 : Int32)] dX13_readGlass_150 cv_X13_172 (ci := 12) rfl rfl t0 rfl rfl (Nat.le_of_ble_eq_true rfl) (by omega) (kX13_readNumber (d - 1) (by omega) x0 (1 : Int32) (9 : Int32) t0 (v27, τ28) ev27) ?_
                  obtain ⟨v29, τ30, ev29, h⟩ := bd2_some h
                  refine q_cVI [.int ((68 : Int32) + v4), .int v27] dX13_readGlass_153 cv_X13_175 (ci := 12) rfl rfl t0 rfl rfl (Nat.le_of_ble_eq_true rfl) (by omega) (kX13_put (d - 1) (by omega) x0 ((68 : Int32) + v4) v27 t0 (v29, τ30) ev29) ?_
                  refine r_if_ne 161 dX13_readGlass_156 (by decide) h (fun _ h => ?_) (fun _ h => ?_)
                  · refine r_aload_n 3 dX13_readGlass_161 rfl ?_
                    refine q_getR (e9 := (1, 0)) dX13_readGlass_162 fd_X13_101 t0 rfl h (fun r31 tr31 h => ?_)
                    refine r_bipush (v := 56) dX13_readGlass_165 (by decide) ?_
                    refine r_iload_n 2 dX13_readGlass_167 rfl ?_
                    refine r_iadd dX13_readGlass_168 ?_
                    refine r_iload_n 1 dX13_readGlass_169 rfl ?_
                    refine q_iast dX13_readGlass_170 tr31 h (fun τ32 h => ?_)
                    refine r_aload_n 3 dX13_readGlass_171 rfl ?_
                    refine q_getR (e9 := (1, 0)) dX13_readGlass_172 fd_X13_101 t0 rfl h (fun r33 tr33 h => ?_)
                    refine r_bipush (v := 60) dX13_readGlass_175 (by decide) ?_
                    refine r_iload_n 2 dX13_readGlass_177 rfl ?_
                    refine r_iadd dX13_readGlass_178 ?_
                    refine r_iload_n 0 dX13_readGlass_179 rfl ?_
                    refine q_iast dX13_readGlass_180 tr33 h (fun τ34 h => ?_)
                    refine r_aload_n 3 dX13_readGlass_181 rfl ?_
                    refine q_getR (e9 := (1, 0)) dX13_readGlass_182 fd_X13_101 t0 rfl h (fun r35 tr35 h => ?_)
                    refine r_bipush (v := 48) dX13_readGlass_185 (by decide) ?_
                    refine r_iload_n 1 dX13_readGlass_187 rfl ?_
                    refine r_iadd dX13_readGlass_188 ?_
                    refine r_iload_n 2 dX13_readGlass_189 rfl ?_
                    refine q_iast dX13_readGlass_190 tr35 h (fun τ36 h => ?_)
                    refine r_aload_n 3 dX13_readGlass_191 rfl ?_
                    refine q_getR (e9 := (1, 0)) dX13_readGlass_192 fd_X13_101 t0 rfl h (fun r37 tr37 h => ?_)
                    refine r_bipush (v := 48) dX13_readGlass_195 (by decide) ?_
                    refine r_iload_n 0 dX13_readGlass_197 rfl ?_
                    refine r_iadd dX13_readGlass_198 ?_
                    refine r_iload_n 2 dX13_readGlass_199 rfl ?_
                    refine q_iast dX13_readGlass_200 tr37 h (fun τ38 h => ?_)
                    refine r_aload_n 3 dX13_readGlass_201 rfl ?_
                    refine q_getR (e9 := (1, 0)) dX13_readGlass_202 fd_X13_101 t0 rfl h (fun r39 tr39 h => ?_)
                    refine r_iconst (v := 1) dX13_readGlass_205 (by decide) ?_
                    refine r_dup2 dX13_readGlass_206 rfl rfl ?_
                    refine q_iald dX13_readGlass_207 tr39 h (fun v40 h => ?_)
                    refine r_iconst (v := 1) dX13_readGlass_208 (by decide) ?_
                    refine r_iadd dX13_readGlass_209 ?_
                    refine q_iast dX13_readGlass_210 tr39 h (fun τ41 h => ?_)
                    refine r_iconst (v := 1) dX13_readGlass_211 (by decide) ?_
                    obtain rfl := Option.some.inj h
                    exact r_zreturn dX13_readGlass_212 rfl (by decide) hQ (Nat.le_refl _) (Nat.le_refl _)
                  · refine r_pick [] rfl ?_
                    exact tX13_readGlass_b159 hdd τ30  _ h hQ
              · refine r_pick [3] rfl ?_
                exact tX13_readGlass_b112 hdd τ18 x0 t0 _ h hQ
          · refine r_iconst (v := 0) dX13_readGlass_87 (by decide) ?_
            obtain rfl := Option.some.inj h
            exact r_zreturn dX13_readGlass_88 rfl (by decide) hQ (Nat.le_refl _) (Nat.le_refl _)
        · refine r_aload_n 2 dX13_readGlass_63 rfl ?_
          refine r_iconst (v := 3) dX13_readGlass_64 (by decide) ?_
          obtain ⟨v42, τ43, ev42, h⟩ := bd2_some h
          refine q_cVI [.int (3 : Int32)] dX13_readGlass_65 cv_X13_72 (ci := 12) rfl rfl t0 rfl rfl (Nat.le_of_ble_eq_true rfl) (by omega) (kX13_bad (d - 1) (by omega) x0 (3 : Int32) t0 (v42, τ43) ev42) ?_
          obtain ⟨hbz, h⟩ := rZ_some h
          obtain rfl := Option.some.inj h
          exact r_zreturn dX13_readGlass_68 rfl hbz hQ (Nat.le_refl _) (Nat.le_refl _)
      · refine r_pick [] rfl ?_
        exact tX13_readGlass_b43 hdd τ10  _ h hQ
  · refine r_iconst (v := 0) dX13_readGlass_9 (by decide) ?_
    obtain rfl := Option.some.inj h
    exact r_zreturn dX13_readGlass_10 rfl (by decide) hQ (Nat.le_refl _) (Nat.le_refl _)
