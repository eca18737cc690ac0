/-! the walks of the reference, 12 -/
theorem sX13_image_L18 {l : Launch} {G : gg} {Γ : ly} {d : Nat} {Q : Option Value → ly → mm → Prop} (hdd : 1 ≤ d) (x0 : Nat) (x1 : Int32) (t0 : tyOK Γ (0, 12) x0) {K : mm → Prop} (kx0 : ∀ (σ9 : mm), K σ9 → WP l G yX13_image cX13_image 3 (some .boolean) d 0 0 Q 0 0 49 [(0, .ref (G.2.1 x0)), (1, .int x1)] [] Γ σ9) : ∀ (N : Nat) (s : (Int32 × mm)) (b : mm), loopN (fX13_image_L18 Γ.2 x0 x1) N s = some b → K b → WP l G yX13_image cX13_image 3 (some .boolean) d 0 0 Q 0 0 18 [(0, .ref (G.2.1 x0)), (1, .int x1), (2, .int s.1)] [] Γ s.2 := by
  refine r_loop (f := fX13_image_L18 Γ.2 x0 x1) (hlv := fun s => [(0, .ref (G.2.1 x0)), (1, .int x1), (2, .int s.1)]) (hsg := fun s => s.2) ?_
  rintro ⟨x2, σ⟩ r h hb hx
  have hb : ∀ (x2 : Int32) (σ : mm), r = .inl (x2, σ) → WP l G yX13_image cX13_image 3 (some .boolean) d 0 0 Q 0 0 18 [(0, .ref (G.2.1 x0)), (1, .int x1), (2, .int x2)] [] Γ σ := fun x2 σ e => hb (x2, σ) e
  have hx0 : ∀ (σ9 : mm), r = .inr σ9 → WP l G yX13_image cX13_image 3 (some .boolean) d 0 0 Q 0 0 49 [(0, .ref (G.2.1 x0)), (1, .int x1)] [] Γ σ9 := fun σ9 e => kx0 σ9 (hx _ e)
  unfold fX13_image_L18 at h
  have h := un2_some h
  show WP l G yX13_image cX13_image 3 (some .boolean) d 0 0 Q 0 0 18 [(0, .ref (G.2.1 x0)), (1, .int x1), (2, .int x2)] [] Γ σ
  refine r_iload_n 2 dX13_image_18 rfl ?_
  refine r_sipush (v := 383) dX13_image_19 (by decide) ?_
  refine r_icmp_ge 49 dX13_image_22 (by decide) h (fun _ h => ?_) (fun _ h => ?_)
  · obtain rfl := Option.some.inj h
    refine r_pick [0, 1] rfl ?_
    exact hx0 _ rfl
  · refine r_aload_n 0 dX13_image_25 rfl ?_
    refine q_getR (e9 := (1, 0)) dX13_image_26 fd_X13_104 t0 rfl h (fun r1 tr1 h => ?_)
    refine r_sipush (v := 383) dX13_image_29 (by decide) ?_
    refine r_iload_n 1 dX13_image_32 rfl ?_
    refine r_imul dX13_image_33 ?_
    refine r_iload_n 2 dX13_image_34 rfl ?_
    refine r_iadd dX13_image_35 ?_
    refine r_aload_n 0 dX13_image_36 rfl ?_
    refine q_getR (e9 := (1, 0)) dX13_image_37 fd_X13_98 t0 rfl h (fun r2 tr2 h => ?_)
    refine r_iload_n 2 dX13_image_40 rfl ?_
    refine q_iald dX13_image_41 tr2 h (fun v3 h => ?_)
    refine q_iast dX13_image_42 tr1 h (fun τ4 h => ?_)
    refine q_iinc (v := 1) 2 (fun v5 => [(2, .int v5), (0, .ref (G.2.1 x0)), (1, .int x1)]) dX13_image_43 rfl (by decide) (by decide) (fun _ => rfl) h (fun v5 h => ?_)
    refine r_goto 18 dX13_image_46 (by decide) ?_
    obtain rfl := Option.some.inj h
    refine r_pick [1, 2, 0] rfl ?_
    exact hb _ _ rfl
theorem sX13_image_L51 {l : Launch} {G : gg} {Γ : ly} {d : Nat} {Q : Option Value → ly → mm → Prop} (hdd : 1 ≤ d) (x0 : Nat) (x1 : Int32) (t0 : tyOK Γ (0, 12) x0) {K : mm → Prop} (kx0 : ∀ (σ9 : mm), K σ9 → WP l G yX13_image cX13_image 3 (some .boolean) d 0 0 Q 0 0 80 [(0, .ref (G.2.1 x0)), (1, .int x1)] [] Γ σ9) : ∀ (N : Nat) (s : (Int32 × mm)) (b : mm), loopN (fX13_image_L51 Γ.2 x0 x1) N s = some b → K b → WP l G yX13_image cX13_image 3 (some .boolean) d 0 0 Q 0 0 51 [(0, .ref (G.2.1 x0)), (1, .int x1), (2, .int s.1)] [] Γ s.2 := by
  refine r_loop (f := fX13_image_L51 Γ.2 x0 x1) (hlv := fun s => [(0, .ref (G.2.1 x0)), (1, .int x1), (2, .int s.1)]) (hsg := fun s => s.2) ?_
  rintro ⟨x2, σ⟩ r h hb hx
  have hb : ∀ (x2 : Int32) (σ : mm), r = .inl (x2, σ) → WP l G yX13_image cX13_image 3 (some .boolean) d 0 0 Q 0 0 51 [(0, .ref (G.2.1 x0)), (1, .int x1), (2, .int x2)] [] Γ σ := fun x2 σ e => hb (x2, σ) e
  have hx0 : ∀ (σ9 : mm), r = .inr σ9 → WP l G yX13_image cX13_image 3 (some .boolean) d 0 0 Q 0 0 80 [(0, .ref (G.2.1 x0)), (1, .int x1)] [] Γ σ9 := fun σ9 e => kx0 σ9 (hx _ e)
  unfold fX13_image_L51 at h
  have h := un2_some h
  show WP l G yX13_image cX13_image 3 (some .boolean) d 0 0 Q 0 0 51 [(0, .ref (G.2.1 x0)), (1, .int x1), (2, .int x2)] [] Γ σ
  refine r_iload_n 2 dX13_image_51 rfl ?_
  refine r_bipush (v := 18) dX13_image_52 (by decide) ?_
  refine r_icmp_ge 80 dX13_image_54 (by decide) h (fun _ h => ?_) (fun _ h => ?_)
  · obtain rfl := Option.some.inj h
    refine r_pick [0, 1] rfl ?_
    exact hx0 _ rfl
  · refine r_aload_n 0 dX13_image_57 rfl ?_
    refine q_getR (e9 := (4, 0)) dX13_image_58 fd_X13_120 t0 rfl h (fun r1 tr1 h => ?_)
    refine r_bipush (v := 18) dX13_image_61 (by decide) ?_
    refine r_iload_n 1 dX13_image_63 rfl ?_
    refine r_imul dX13_image_64 ?_
    refine r_iload_n 2 dX13_image_65 rfl ?_
    refine r_iadd dX13_image_66 ?_
    refine r_aload_n 0 dX13_image_67 rfl ?_
    refine q_getR (e9 := (4, 0)) dX13_image_68 fd_X13_113 t0 rfl h (fun r2 tr2 h => ?_)
    refine r_iload_n 2 dX13_image_71 rfl ?_
    refine q_lald dX13_image_72 tr2 h (fun v3 h => ?_)
    refine q_last dX13_image_73 tr1 h (fun τ4 h => ?_)
    refine q_iinc (v := 1) 2 (fun v5 => [(2, .int v5), (0, .ref (G.2.1 x0)), (1, .int x1)]) dX13_image_74 rfl (by decide) (by decide) (fun _ => rfl) h (fun v5 h => ?_)
    refine r_goto 51 dX13_image_77 (by decide) ?_
    obtain rfl := Option.some.inj h
    refine r_pick [1, 2, 0] rfl ?_
    exact hb _ _ rfl
theorem kX13_image {l : Launch} {G : gg} {Γ : ly} {σ : mm} (d : Nat) (hdd : 1 ≤ d) (x0 : Nat) (x1 : Int32) (t0 : tyOK Γ (0, 12) x0) (r : (Int32 × mm)) (h : fX13_image Γ.2 σ x0 x1 = some r) : CT l G yX13_image cX13_image 3 (some .boolean) d 0 0 [.ref (G.2.1 x0), .int x1] Γ σ (PP (some (.int r.1)) Γ r.2) := by
  refine CT.ofWP (by decide) (Nat.le_of_ble_eq_true rfl) ?_
  have hQ : PP (some (.int r.1)) Γ r.2 (some (.int r.1)) Γ r.2 := PP.self
  generalize PP (some (.int r.1)) Γ r.2 = Q at hQ ⊢
  show WP l G yX13_image cX13_image 3 (some .boolean) d 0 0 Q 0 0 0 [(0, .ref (G.2.1 x0)), (1, .int x1)] [] Γ σ
  unfold fX13_image at h
  refine r_aload_n 0 dX13_image_0 rfl ?_
  refine r_iconst (v := 0) dX13_image_1 (by decide) ?_
  refine q_putI dX13_image_2 fd_X13_1 t0 h (fun τ1 h => ?_)
  refine r_iload_n 1 dX13_image_5 rfl ?_
  refine r_iconst (v := 0) dX13_image_6 (by decide) ?_
  refine r_iconst (v := 1) dX13_image_7 (by decide) ?_
  obtain ⟨v2, ev2, h⟩ := bd0_some h
  refine q_cSI [.int x1, .int (0 : Int32), .int (1 : Int32)] dX13_image_8 cs_X13_75 rfl rfl (Nat.le_of_ble_eq_true rfl) (by omega) (kX13_isIn (d - 1) (by omega) x1 (0 : Int32) (1 : Int32)  v2 ev2) ?_
  refine r_if_ne 16 dX13_image_11 (by decide) h (fun _ h => ?_) (fun _ h => ?_)
  · refine r_iconst (v := 0) dX13_image_16 (by decide) ?_
    refine r_istore_n (lv' := [(2, .int (0 : Int32)), (0, .ref (G.2.1 x0)), (1, .int x1)]) dX13_image_17 (by decide) rfl ?_
    obtain ⟨b3, eb3, h⟩ := bd0_some h
    refine r_pick [1, 2, 0] rfl ?_
    refine sX13_image_L18 hdd x0 x1 t0 (K := fun b => b = b3) ?_ 1000 ((0 : Int32), τ1) b3 eb3 rfl
    rintro τ4 rfl
    refine r_iconst (v := 0) dX13_image_49 (by decide) ?_
    refine r_istore_n (lv' := [(2, .int (0 : Int32)), (0, .ref (G.2.1 x0)), (1, .int x1)]) dX13_image_50 (by decide) rfl ?_
    obtain ⟨b5, eb5, h⟩ := bd0_some h
    refine r_pick [1, 2, 0] rfl ?_
    refine sX13_image_L51 hdd x0 x1 t0 (K := fun b => b = b5) ?_ 1000 ((0 : Int32), τ4) b5 eb5 rfl
    rintro τ6 rfl
    refine r_aload_n 0 dX13_image_80 rfl ?_
    refine q_getR (e9 := (3, 0)) dX13_image_81 fd_X13_123 t0 rfl h (fun r7 tr7 h => ?_)
    refine r_iload_n 1 dX13_image_84 rfl ?_
    refine r_iconst (v := 1) dX13_image_85 (by decide) ?_
    refine q_zast dX13_image_86 tr7 h (fun τ8 h => ?_)
    refine r_iconst (v := 1) dX13_image_87 (by decide) ?_
    obtain rfl := Option.some.inj h
    exact r_zreturn dX13_image_88 rfl (by decide) hQ (Nat.le_refl _) (Nat.le_refl _)
  · refine r_iconst (v := 0) dX13_image_14 (by decide) ?_
    obtain rfl := Option.some.inj h
    exact r_zreturn dX13_image_15 rfl (by decide) hQ (Nat.le_refl _) (Nat.le_refl _)
theorem tX13_restore_b23 {l : Launch} {G : gg} {Γ : ly} {d : Nat} {Q : Option Value → ly → mm → Prop} (hdd : 1 ≤ d) (σ : mm)     (r : (Int32 × mm)) (h : fX13_restore_b23 Γ.2 σ  = some r) (hQ : Q (some (.int r.1)) Γ r.2) : WP l G yX13_restore cX13_restore 3 (some .boolean) d 0 0 Q 0 0 23 [] [] Γ σ := by
  unfold fX13_restore_b23 at h
  refine r_iconst (v := 0) dX13_restore_23 (by decide) ?_
  obtain rfl := Option.some.inj h
  exact r_zreturn dX13_restore_24 rfl (by decide) hQ (Nat.le_refl _) (Nat.le_refl _)
theorem sX13_restore_L27 {l : Launch} {G : gg} {Γ : ly} {d : Nat} {Q : Option Value → ly → mm → Prop} (hdd : 1 ≤ d) (x0 : Nat) (x1 : Int32) (t0 : tyOK Γ (0, 12) x0) {K : mm → Prop} (kx0 : ∀ (σ9 : mm), K σ9 → WP l G yX13_restore cX13_restore 3 (some .boolean) d 0 0 Q 0 0 58 [(0, .ref (G.2.1 x0)), (1, .int x1)] [] Γ σ9) : ∀ (N : Nat) (s : (Int32 × mm)) (b : mm), loopN (fX13_restore_L27 Γ.2 x0 x1) N s = some b → K b → WP l G yX13_restore cX13_restore 3 (some .boolean) d 0 0 Q 0 0 27 [(0, .ref (G.2.1 x0)), (1, .int x1), (2, .int s.1)] [] Γ s.2 := by
  refine r_loop (f := fX13_restore_L27 Γ.2 x0 x1) (hlv := fun s => [(0, .ref (G.2.1 x0)), (1, .int x1), (2, .int s.1)]) (hsg := fun s => s.2) ?_
  rintro ⟨x2, σ⟩ r h hb hx
  have hb : ∀ (x2 : Int32) (σ : mm), r = .inl (x2, σ) → WP l G yX13_restore cX13_restore 3 (some .boolean) d 0 0 Q 0 0 27 [(0, .ref (G.2.1 x0)), (1, .int x1), (2, .int x2)] [] Γ σ := fun x2 σ e => hb (x2, σ) e
  have hx0 : ∀ (σ9 : mm), r = .inr σ9 → WP l G yX13_restore cX13_restore 3 (some .boolean) d 0 0 Q 0 0 58 [(0, .ref (G.2.1 x0)), (1, .int x1)] [] Γ σ9 := fun σ9 e => kx0 σ9 (hx _ e)
  unfold fX13_restore_L27 at h
  have h := un2_some h
  show WP l G yX13_restore cX13_restore 3 (some .boolean) d 0 0 Q 0 0 27 [(0, .ref (G.2.1 x0)), (1, .int x1), (2, .int x2)] [] Γ σ
  refine r_iload_n 2 dX13_restore_27 rfl ?_
  refine r_sipush (v := 383) dX13_restore_28 (by decide) ?_
  refine r_icmp_ge 58 dX13_restore_31 (by decide) h (fun _ h => ?_) (fun _ h => ?_)
  · obtain rfl := Option.some.inj h
    refine r_pick [0, 1] rfl ?_
    exact hx0 _ rfl
  · refine r_aload_n 0 dX13_restore_34 rfl ?_
    refine q_getR (e9 := (1, 0)) dX13_restore_35 fd_X13_98 t0 rfl h (fun r1 tr1 h => ?_)
    refine r_iload_n 2 dX13_restore_38 rfl ?_
    refine r_aload_n 0 dX13_restore_39 rfl ?_
    refine q_getR (e9 := (1, 0)) dX13_restore_40 fd_X13_104 t0 rfl h (fun r2 tr2 h => ?_)
    refine r_sipush (v := 383) dX13_restore_43 (by decide) ?_
    refine r_iload_n 1 dX13_restore_46 rfl ?_
    refine r_imul dX13_restore_47 ?_
    refine r_iload_n 2 dX13_restore_48 rfl ?_
    refine r_iadd dX13_restore_49 ?_
    refine q_iald dX13_restore_50 tr2 h (fun v3 h => ?_)
    refine q_iast dX13_restore_51 tr1 h (fun τ4 h => ?_)
    refine q_iinc (v := 1) 2 (fun v5 => [(2, .int v5), (0, .ref (G.2.1 x0)), (1, .int x1)]) dX13_restore_52 rfl (by decide) (by decide) (fun _ => rfl) h (fun v5 h => ?_)
    refine r_goto 27 dX13_restore_55 (by decide) ?_
    obtain rfl := Option.some.inj h
    refine r_pick [1, 2, 0] rfl ?_
    exact hb _ _ rfl
theorem sX13_restore_L60 {l : Launch} {G : gg} {Γ : ly} {d : Nat} {Q : Option Value → ly → mm → Prop} (hdd : 1 ≤ d) (x0 : Nat) (x1 : Int32) (t0 : tyOK Γ (0, 12) x0) {K : mm → Prop} (kx0 : ∀ (σ9 : mm), K σ9 → WP l G yX13_restore cX13_restore 3 (some .boolean) d 0 0 Q 0 0 89 [(0, .ref (G.2.1 x0))] [] Γ σ9) : ∀ (N : Nat) (s : (Int32 × mm)) (b : mm), loopN (fX13_restore_L60 Γ.2 x0 x1) N s = some b → K b → WP l G yX13_restore cX13_restore 3 (some .boolean) d 0 0 Q 0 0 60 [(0, .ref (G.2.1 x0)), (1, .int x1), (2, .int s.1)] [] Γ s.2 := by
  refine r_loop (f := fX13_restore_L60 Γ.2 x0 x1) (hlv := fun s => [(0, .ref (G.2.1 x0)), (1, .int x1), (2, .int s.1)]) (hsg := fun s => s.2) ?_
  rintro ⟨x2, σ⟩ r h hb hx
  have hb : ∀ (x2 : Int32) (σ : mm), r = .inl (x2, σ) → WP l G yX13_restore cX13_restore 3 (some .boolean) d 0 0 Q 0 0 60 [(0, .ref (G.2.1 x0)), (1, .int x1), (2, .int x2)] [] Γ σ := fun x2 σ e => hb (x2, σ) e
  have hx0 : ∀ (σ9 : mm), r = .inr σ9 → WP l G yX13_restore cX13_restore 3 (some .boolean) d 0 0 Q 0 0 89 [(0, .ref (G.2.1 x0))] [] Γ σ9 := fun σ9 e => kx0 σ9 (hx _ e)
  unfold fX13_restore_L60 at h
  have h := un2_some h
  show WP l G yX13_restore cX13_restore 3 (some .boolean) d 0 0 Q 0 0 60 [(0, .ref (G.2.1 x0)), (1, .int x1), (2, .int x2)] [] Γ σ
  refine r_iload_n 2 dX13_restore_60 rfl ?_
  refine r_bipush (v := 18) dX13_restore_61 (by decide) ?_
  refine r_icmp_ge 89 dX13_restore_63 (by decide) h (fun _ h => ?_) (fun _ h => ?_)
  · obtain rfl := Option.some.inj h
    refine r_pick [0] rfl ?_
    exact hx0 _ rfl
  · refine r_aload_n 0 dX13_restore_66 rfl ?_
    refine q_getR (e9 := (4, 0)) dX13_restore_67 fd_X13_113 t0 rfl h (fun r1 tr1 h => ?_)
    refine r_iload_n 2 dX13_restore_70 rfl ?_
    refine r_aload_n 0 dX13_restore_71 rfl ?_
    refine q_getR (e9 := (4, 0)) dX13_restore_72 fd_X13_120 t0 rfl h (fun r2 tr2 h => ?_)
    refine r_bipush (v := 18) dX13_restore_75 (by decide) ?_
    refine r_iload_n 1 dX13_restore_77 rfl ?_
    refine r_imul dX13_restore_78 ?_
    refine r_iload_n 2 dX13_restore_79 rfl ?_
    refine r_iadd dX13_restore_80 ?_
    refine q_lald dX13_restore_81 tr2 h (fun v3 h => ?_)
    refine q_last dX13_restore_82 tr1 h (fun τ4 h => ?_)
    refine q_iinc (v := 1) 2 (fun v5 => [(2, .int v5), (0, .ref (G.2.1 x0)), (1, .int x1)]) dX13_restore_83 rfl (by decide) (by decide) (fun _ => rfl) h (fun v5 h => ?_)
    refine r_goto 60 dX13_restore_86 (by decide) ?_
    obtain rfl := Option.some.inj h
    refine r_pick [1, 2, 0] rfl ?_
    exact hb _ _ rfl
theorem kX13_restore {l : Launch} {G : gg} {Γ : ly} {σ : mm} (d : Nat) (hdd : 1 ≤ d) (x0 : Nat) (x1 : Int32) (t0 : tyOK Γ (0, 12) x0) (r : (Int32 × mm)) (h : fX13_restore Γ.2 σ x0 x1 = some r) : CT l G yX13_restore cX13_restore 3 (some .boolean) d 0 0 [.ref (G.2.1 x0), .int x1] Γ σ (PP (some (.int r.1)) Γ r.2) := by
  refine CT.ofWP (by decide) (Nat.le_of_ble_eq_true rfl) ?_
  have hQ : PP (some (.int r.1)) Γ r.2 (some (.int r.1)) Γ r.2 := PP.self
  generalize PP (some (.int r.1)) Γ r.2 = Q at hQ ⊢
  show WP l G yX13_restore cX13_restore 3 (some .boolean) d 0 0 Q 0 0 0 [(0, .ref (G.2.1 x0)), (1, .int x1)] [] Γ σ
  unfold fX13_restore at h
  refine r_aload_n 0 dX13_restore_0 rfl ?_
  refine r_iconst (v := 0) dX13_restore_1 (by decide) ?_
  refine q_putI dX13_restore_2 fd_X13_1 t0 h (fun τ1 h => ?_)
  refine r_iload_n 1 dX13_restore_5 rfl ?_
  refine r_iconst (v := 0) dX13_restore_6 (by decide) ?_
  refine r_iconst (v := 1) dX13_restore_7 (by decide) ?_
  obtain ⟨v2, ev2, h⟩ := bd0_some h
  refine q_cSI [.int x1, .int (0 : Int32), .int (1 : Int32)] dX13_restore_8 cs_X13_75 rfl rfl (Nat.le_of_ble_eq_true rfl) (by omega) (kX13_isIn (d - 1) (by omega) x1 (0 : Int32) (1 : Int32)  v2 ev2) ?_
  refine r_if_eq 23 dX13_restore_11 (by decide) h (fun _ h => ?_) (fun _ h => ?_)
  · refine r_pick [] rfl ?_
    exact tX13_restore_b23 hdd τ1  _ h hQ
  · refine r_aload_n 0 dX13_restore_14 rfl ?_
    refine q_getR (e9 := (3, 0)) dX13_restore_15 fd_X13_123 t0 rfl h (fun r3 tr3 h => ?_)
    refine r_iload_n 1 dX13_restore_18 rfl ?_
    refine q_zald dX13_restore_19 tr3 h (fun v4 h => ?_)
    refine r_if_ne 25 dX13_restore_20 (by decide) h (fun _ h => ?_) (fun _ h => ?_)
    · refine r_iconst (v := 0) dX13_restore_25 (by decide) ?_
      refine r_istore_n (lv' := [(2, .int (0 : Int32)), (0, .ref (G.2.1 x0)), (1, .int x1)]) dX13_restore_26 (by decide) rfl ?_
      obtain ⟨b5, eb5, h⟩ := bd0_some h
      refine r_pick [1, 2, 0] rfl ?_
      refine sX13_restore_L27 hdd x0 x1 t0 (K := fun b => b = b5) ?_ 1000 ((0 : Int32), τ1) b5 eb5 rfl
      rintro τ6 rfl
      refine r_iconst (v := 0) dX13_restore_58 (by decide) ?_
      refine r_istore_n (lv' := [(2, .int (0 : Int32)), (0, .ref (G.2.1 x0)), (1, .int x1)]) dX13_restore_59 (by decide) rfl ?_
      obtain ⟨b7, eb7, h⟩ := bd0_some h
      refine r_pick [1, 2, 0] rfl ?_
      refine sX13_restore_L60 hdd x0 x1 t0 (K := fun b => b = b7) ?_ 1000 ((0 : Int32), τ6) b7 eb7 rfl
      rintro τ8 rfl
      refine r_aload_n 0 dX13_restore_89 rfl ?_
      refine r_iconst (v := 0) dX13_restore_90 (by decide) ?_
      refine q_putI dX13_restore_91 fd_X13_221 t0 h (fun τ9 h => ?_)
      refine r_iconst (v := 1) dX13_restore_94 (by decide) ?_
      obtain rfl := Option.some.inj h
      exact r_zreturn dX13_restore_95 rfl (by decide) hQ (Nat.le_refl _) (Nat.le_refl _)
    · refine r_pick [] rfl ?_
      exact tX13_restore_b23 hdd τ1  _ h hQ
theorem kX13_count {l : Launch} {G : gg} {Γ : ly} {σ : mm} (d : Nat) (hdd : 0 ≤ d) (x0 : Nat) (x1 : Int32) (t0 : tyOK Γ (0, 12) x0) (r : (Int32 × mm)) (h : fX13_count Γ.2 σ x0 x1 = some r) : CT l G yX13_count cX13_count 2 (some .int) d 0 0 [.ref (G.2.1 x0), .int x1] Γ σ (PP (some (.int r.1)) Γ r.2) := by
  refine CT.ofWP (by decide) (Nat.le_of_ble_eq_true rfl) ?_
  have hQ : PP (some (.int r.1)) Γ r.2 (some (.int r.1)) Γ r.2 := PP.self
  generalize PP (some (.int r.1)) Γ r.2 = Q at hQ ⊢
  show WP l G yX13_count cX13_count 2 (some .int) d 0 0 Q 0 0 0 [(0, .ref (G.2.1 x0)), (1, .int x1)] [] Γ σ
  unfold fX13_count at h
  refine r_aload_n 0 dX13_count_0 rfl ?_
  refine r_iconst (v := 0) dX13_count_1 (by decide) ?_
  refine q_putI dX13_count_2 fd_X13_1 t0 h (fun τ1 h => ?_)
  refine r_iload_n 1 dX13_count_5 rfl ?_
  rcases if_split h with ⟨q9, h⟩ | ⟨n0, h⟩
  · refine r_table (0 : Int32) 50 56 dX13_count_6 q9 (by decide) (by decide) rfl (by decide) ?_
    refine r_aload_n 0 dX13_count_56 rfl ?_
    refine q_getR (e9 := (1, 0)) dX13_count_57 fd_X13_98 t0 rfl h (fun r2 tr2 h => ?_)
    refine r_iconst (v := 0) dX13_count_60 (by decide) ?_
    refine q_iald dX13_count_61 tr2 h (fun v3 h => ?_)
    obtain rfl := Option.some.inj h
    exact r_ireturn dX13_count_62 rfl hQ (Nat.le_refl _) (Nat.le_refl _)
  rcases if_split h with ⟨q9, h⟩ | ⟨n1, h⟩
  · refine r_table (1 : Int32) 57 63 dX13_count_6 q9 (by decide) (by decide) rfl (by decide) ?_
    refine r_aload_n 0 dX13_count_63 rfl ?_
    refine q_getR (e9 := (1, 0)) dX13_count_64 fd_X13_98 t0 rfl h (fun r4 tr4 h => ?_)
    refine r_iconst (v := 1) dX13_count_67 (by decide) ?_
    refine q_iald dX13_count_68 tr4 h (fun v5 h => ?_)
    obtain rfl := Option.some.inj h
    exact r_ireturn dX13_count_69 rfl hQ (Nat.le_refl _) (Nat.le_refl _)
  rcases if_split h with ⟨q9, h⟩ | ⟨n2, h⟩
  · refine r_table (2 : Int32) 64 70 dX13_count_6 q9 (by decide) (by decide) rfl (by decide) ?_
    refine r_aload_n 0 dX13_count_70 rfl ?_
    refine q_getR (e9 := (1, 0)) dX13_count_71 fd_X13_98 t0 rfl h (fun r6 tr6 h => ?_)
    refine r_iconst (v := 2) dX13_count_74 (by decide) ?_
    refine q_iald dX13_count_75 tr6 h (fun v7 h => ?_)
    obtain rfl := Option.some.inj h
    exact r_ireturn dX13_count_76 rfl hQ (Nat.le_refl _) (Nat.le_refl _)
  rcases if_split h with ⟨q9, h⟩ | ⟨n3, h⟩
  · refine r_table (3 : Int32) 71 77 dX13_count_6 q9 (by decide) (by decide) rfl (by decide) ?_
    refine r_aload_n 0 dX13_count_77 rfl ?_
    refine q_getR (e9 := (1, 0)) dX13_count_78 fd_X13_98 t0 rfl h (fun r8 tr8 h => ?_)
    refine r_iconst (v := 3) dX13_count_81 (by decide) ?_
    refine q_iald dX13_count_82 tr8 h (fun v9 h => ?_)
    obtain rfl := Option.some.inj h
    exact r_ireturn dX13_count_83 rfl hQ (Nat.le_refl _) (Nat.le_refl _)
  rcases if_split h with ⟨q9, h⟩ | ⟨n4, h⟩
  · refine r_table (4 : Int32) 78 84 dX13_count_6 q9 (by decide) (by decide) rfl (by decide) ?_
    refine r_aload_n 0 dX13_count_84 rfl ?_
    refine q_getR (e9 := (1, 0)) dX13_count_85 fd_X13_98 t0 rfl h (fun r10 tr10 h => ?_)
    refine r_iconst (v := 4) dX13_count_88 (by decide) ?_
    refine q_iald dX13_count_89 tr10 h (fun v11 h => ?_)
    obtain rfl := Option.some.inj h
    exact r_ireturn dX13_count_90 rfl hQ (Nat.le_refl _) (Nat.le_refl _)
  rcases if_split h with ⟨q9, h⟩ | ⟨n5, h⟩
  · refine r_table (5 : Int32) 85 91 dX13_count_6 q9 (by decide) (by decide) rfl (by decide) ?_
    refine r_aload_n 0 dX13_count_91 rfl ?_
    refine q_getR (e9 := (1, 0)) dX13_count_92 fd_X13_98 t0 rfl h (fun r12 tr12 h => ?_)
    refine r_iconst (v := 5) dX13_count_95 (by decide) ?_
    refine q_iald dX13_count_96 tr12 h (fun v13 h => ?_)
    obtain rfl := Option.some.inj h
    exact r_ireturn dX13_count_97 rfl hQ (Nat.le_refl _) (Nat.le_refl _)
  rcases if_split h with ⟨q9, h⟩ | ⟨n6, h⟩
  · refine r_table (6 : Int32) 92 98 dX13_count_6 q9 (by decide) (by decide) rfl (by decide) ?_
    refine r_aload_n 0 dX13_count_98 rfl ?_
    refine q_getR (e9 := (1, 0)) dX13_count_99 fd_X13_98 t0 rfl h (fun r14 tr14 h => ?_)
    refine r_bipush (v := 6) dX13_count_102 (by decide) ?_
    refine q_iald dX13_count_104 tr14 h (fun v15 h => ?_)
    obtain rfl := Option.some.inj h
    exact r_ireturn dX13_count_105 rfl hQ (Nat.le_refl _) (Nat.le_refl _)
  rcases if_split h with ⟨q9, h⟩ | ⟨n7, h⟩
  · refine r_table (7 : Int32) 100 106 dX13_count_6 q9 (by decide) (by decide) rfl (by decide) ?_
    refine r_aload_n 0 dX13_count_106 rfl ?_
    refine q_getR (e9 := (1, 0)) dX13_count_107 fd_X13_98 t0 rfl h (fun r16 tr16 h => ?_)
    refine r_bipush (v := 7) dX13_count_110 (by decide) ?_
    refine q_iald dX13_count_112 tr16 h (fun v17 h => ?_)
    obtain rfl := Option.some.inj h
    exact r_ireturn dX13_count_113 rfl hQ (Nat.le_refl _) (Nat.le_refl _)
  rcases if_split h with ⟨q9, h⟩ | ⟨n8, h⟩
  · refine r_table (8 : Int32) 108 114 dX13_count_6 q9 (by decide) (by decide) rfl (by decide) ?_
    refine r_aload_n 0 dX13_count_114 rfl ?_
    refine r_getI dX13_count_115 fd_X13_11 t0 ?_
    obtain rfl := Option.some.inj h
    exact r_ireturn dX13_count_118 rfl hQ (Nat.le_refl _) (Nat.le_refl _)
  have n0 := ne_int n0 (z := 0) rfl
  have n1 := ne_int n1 (z := 1) rfl
  have n2 := ne_int n2 (z := 2) rfl
  have n3 := ne_int n3 (z := 3) rfl
  have n4 := ne_int n4 (z := 4) rfl
  have n5 := ne_int n5 (z := 5) rfl
  have n6 := ne_int n6 (z := 6) rfl
  have n7 := ne_int n7 (z := 7) rfl
  have n8 := ne_int n8 (z := 8) rfl
  refine r_tableD 119 dX13_count_6 (by omega) (by decide) ?_
  refine r_iconst (v := -1) dX13_count_119 (by decide) ?_
  obtain rfl := Option.some.inj h
  exact r_ireturn dX13_count_120 rfl hQ (Nat.le_refl _) (Nat.le_refl _)
