/-! the walks, 9 -/
theorem sX8_append_L3 {l : Launch} {G : gg} {Γ : ly} {d : Nat} {Q : Option Value → ly → mm → Prop} (hdd : 0 ≤ d) (x0 : Nat) (x1 : Int32) (t0 : tyOK Γ (0, 8) x0) {K : mm → Prop} (kx0 : ∀ (σ9 : mm), K σ9 → WP l G yX8_append cX8_append 3 (none) d 0 0 Q 0 0 46 [] [] Γ σ9) : ∀ (N : Nat) (s : (Int32 × mm)) (b : mm), loopN (fX8_append_L3 Γ.2 x0 x1) N s = some b → K b → WP l G yX8_append cX8_append 3 (none) d 0 0 Q 0 0 3 [(0, .ref (G.2.1 x0)), (1, .int x1), (2, .int s.1)] [] Γ s.2 := by
  refine r_loop (f := fX8_append_L3 Γ.2 x0 x1) (hlv := fun s => [(0, .ref (G.2.1 x0)), (1, .int x1), (2, .int s.1)]) (hsg := fun s => s.2) ?_
  rintro ⟨x2, σ⟩ r h hb hx
  have hb : ∀ (x2 : Int32) (σ : mm), r = .inl (x2, σ) → WP l G yX8_append cX8_append 3 (none) d 0 0 Q 0 0 3 [(0, .ref (G.2.1 x0)), (1, .int x1), (2, .int x2)] [] Γ σ := fun x2 σ e => hb (x2, σ) e
  have hx0 : ∀ (σ9 : mm), r = .inr σ9 → WP l G yX8_append cX8_append 3 (none) d 0 0 Q 0 0 46 [] [] Γ σ9 := fun σ9 e => kx0 σ9 (hx _ e)
  unfold fX8_append_L3 at h
  have h := un2_some h
  show WP l G yX8_append cX8_append 3 (none) d 0 0 Q 0 0 3 [(0, .ref (G.2.1 x0)), (1, .int x1), (2, .int x2)] [] Γ σ
  refine r_iload_n 2 dX8_append_3 rfl ?_
  refine r_if_lt 46 dX8_append_4 (by decide) h (fun _ h => ?_) (fun _ h => ?_)
  · obtain rfl := Option.some.inj h
    refine r_pick [] rfl ?_
    exact hx0 _ rfl
  · refine r_aload_n 0 dX8_append_7 rfl ?_
    refine r_getI dX8_append_8 fd_X8_22 t0 ?_
    refine r_sipush (v := 940) dX8_append_11 (by decide) ?_
    refine r_icmp_ge 46 dX8_append_14 (by decide) h (fun _ h => ?_) (fun _ h => ?_)
    · obtain rfl := Option.some.inj h
      refine r_pick [] rfl ?_
      exact hx0 _ rfl
    · refine r_aload_n 0 dX8_append_17 rfl ?_
      refine q_getR (e9 := (2, 0)) dX8_append_18 fd_X8_9 t0 rfl h (fun r1 tr1 h => ?_)
      refine r_aload_n 0 dX8_append_21 rfl ?_
      refine r_getI dX8_append_22 fd_X8_22 t0 ?_
      refine r_iload_n 1 dX8_append_25 rfl ?_
      refine r_iload_n 2 dX8_append_26 rfl ?_
      refine r_ishr dX8_append_27 ?_
      refine r_i2b dX8_append_28 ?_
      refine q_bast dX8_append_29 tr1 h (fun τ2 h => ?_)
      refine r_aload_n 0 dX8_append_30 rfl ?_
      refine r_dup dX8_append_31 rfl ?_
      refine r_getI dX8_append_32 fd_X8_22 t0 ?_
      refine r_iconst (v := 1) dX8_append_35 (by decide) ?_
      refine r_iadd dX8_append_36 ?_
      refine q_putI dX8_append_37 fd_X8_22 t0 h (fun τ3 h => ?_)
      refine q_iinc (v := -8) 2 (fun v4 => [(2, .int v4), (0, .ref (G.2.1 x0)), (1, .int x1)]) dX8_append_40 rfl (by decide) (by decide) (fun _ => rfl) h (fun v4 h => ?_)
      refine r_goto 3 dX8_append_43 (by decide) ?_
      obtain rfl := Option.some.inj h
      refine r_pick [1, 2, 0] rfl ?_
      exact hb _ _ rfl
theorem tX8_append_b46 {l : Launch} {G : gg} {Γ : ly} {d : Nat} {Q : Option Value → ly → mm → Prop} (hdd : 0 ≤ d) (σ : mm)     (r : mm) (h : fX8_append_b46 Γ.2 σ  = some r) (hQ : Q none Γ r) : WP l G yX8_append cX8_append 3 (none) d 0 0 Q 0 0 46 [] [] Γ σ := by
  unfold fX8_append_b46 at h
  obtain rfl := Option.some.inj h
  exact r_return dX8_append_46 rfl hQ (Nat.le_refl _) (Nat.le_refl _)
theorem kX8_append {l : Launch} {G : gg} {Γ : ly} {σ : mm} (d : Nat) (hdd : 0 ≤ d) (x0 : Nat) (x1 : Int32) (t0 : tyOK Γ (0, 8) x0) (r : mm) (h : fX8_append Γ.2 σ x0 x1 = some r) : CT l G yX8_append cX8_append 3 (none) d 0 0 [.ref (G.2.1 x0), .int x1] Γ σ (PP none Γ r) := by
  refine CT.ofWP (by decide) (Nat.le_of_ble_eq_true rfl) ?_
  have hQ : PP none Γ r none Γ r := PP.self
  generalize PP none Γ r = Q at hQ ⊢
  show WP l G yX8_append cX8_append 3 (none) d 0 0 Q 0 0 0 [(0, .ref (G.2.1 x0)), (1, .int x1)] [] Γ σ
  unfold fX8_append at h
  refine r_bipush (v := 24) dX8_append_0 (by decide) ?_
  refine r_istore_n (lv' := [(2, .int (24 : Int32)), (0, .ref (G.2.1 x0)), (1, .int x1)]) dX8_append_2 (by decide) rfl ?_
  obtain ⟨b1, eb1, h⟩ := bd0_some h
  refine r_pick [1, 2, 0] rfl ?_
  refine sX8_append_L3 hdd x0 x1 t0 (K := fun b => b = b1) ?_ 1000 ((24 : Int32), σ) b1 eb1 rfl
  rintro τ2 rfl
  exact tX8_append_b46 hdd τ2  _ h hQ
theorem kX8_firstByte {l : Launch} {G : gg} {Γ : ly} {σ : mm} (d : Nat) (hdd : 0 ≤ d) (x0 : Nat) (t0 : tyOK Γ (0, 8) x0) (r : Int32) (h : fX8_firstByte Γ.2 σ x0 = some r) : CT l G yX8_firstByte cX8_firstByte 1 (some .int) d 0 0 [.ref (G.2.1 x0)] Γ σ (PP (some (.int r)) Γ σ) := by
  refine CT.ofWP (by decide) (Nat.le_of_ble_eq_true rfl) ?_
  have hQ : PP (some (.int r)) Γ σ (some (.int r)) Γ σ := PP.self
  generalize PP (some (.int r)) Γ σ = Q at hQ ⊢
  show WP l G yX8_firstByte cX8_firstByte 1 (some .int) d 0 0 Q 0 0 0 [(0, .ref (G.2.1 x0))] [] Γ σ
  unfold fX8_firstByte at h
  refine r_aload_n 0 dX8_firstByte_0 rfl ?_
  refine q_getR (e9 := (2, 0)) dX8_firstByte_1 fd_X8_9 t0 rfl h (fun r1 tr1 h => ?_)
  refine r_iconst (v := 0) dX8_firstByte_4 (by decide) ?_
  refine q_bald dX8_firstByte_5 tr1 h (fun v2 h => ?_)
  refine r_sipush (v := 255) dX8_firstByte_6 (by decide) ?_
  refine r_iand dX8_firstByte_9 ?_
  obtain rfl := Option.some.inj h
  exact r_ireturn dX8_firstByte_10 rfl hQ (Nat.le_refl _) (Nat.le_refl _)
theorem kX9_forget {l : Launch} {G : gg} {Γ : ly} {σ : mm} (d : Nat) (hdd : 0 ≤ d) (x0 : Nat) (t0 : tyOK Γ (0, 9) x0) (r : mm) (h : fX9_forget Γ.2 σ x0 = some r) : CT l G yX9_forget cX9_forget 1 (none) d 0 0 [.ref (G.2.1 x0)] Γ σ (PP none Γ r) := by
  refine CT.ofWP (by decide) (Nat.le_of_ble_eq_true rfl) ?_
  have hQ : PP none Γ r none Γ r := PP.self
  generalize PP none Γ r = Q at hQ ⊢
  show WP l G yX9_forget cX9_forget 1 (none) d 0 0 Q 0 0 0 [(0, .ref (G.2.1 x0))] [] Γ σ
  unfold fX9_forget at h
  refine r_aload_n 0 dX9_forget_0 rfl ?_
  refine r_iconst (v := 0) dX9_forget_1 (by decide) ?_
  refine q_putI dX9_forget_2 fd_X9_20 t0 h (fun τ1 h => ?_)
  obtain rfl := Option.some.inj h
  exact r_return dX9_forget_5 rfl hQ (Nat.le_refl _) (Nat.le_refl _)
theorem sX9_dropOldest_L9 {l : Launch} {G : gg} {Γ : ly} {d : Nat} {Q : Option Value → ly → mm → Prop} (hdd : 0 ≤ d) (x0 : Nat) (x1 : Nat) (t0 : tyOK Γ (0, 9) x0) (t1 : tyOK Γ (0, 3) x1) {K : mm → Prop} (kx0 : ∀ (σ9 : mm), K σ9 → WP l G yX9_dropOldest cX9_dropOldest 3 (none) d 0 0 Q 0 0 35 [(0, .ref (G.2.1 x0)), (1, .ref (G.2.1 x1))] [] Γ σ9) : ∀ (N : Nat) (s : (Int32 × mm)) (b : mm), loopN (fX9_dropOldest_L9 Γ.2 x0 x1) N s = some b → K b → WP l G yX9_dropOldest cX9_dropOldest 3 (none) d 0 0 Q 0 0 9 [(0, .ref (G.2.1 x0)), (1, .ref (G.2.1 x1)), (2, .int s.1)] [] Γ s.2 := by
  refine r_loop (f := fX9_dropOldest_L9 Γ.2 x0 x1) (hlv := fun s => [(0, .ref (G.2.1 x0)), (1, .ref (G.2.1 x1)), (2, .int s.1)]) (hsg := fun s => s.2) ?_
  rintro ⟨x2, σ⟩ r h hb hx
  have hb : ∀ (x2 : Int32) (σ : mm), r = .inl (x2, σ) → WP l G yX9_dropOldest cX9_dropOldest 3 (none) d 0 0 Q 0 0 9 [(0, .ref (G.2.1 x0)), (1, .ref (G.2.1 x1)), (2, .int x2)] [] Γ σ := fun x2 σ e => hb (x2, σ) e
  have hx0 : ∀ (σ9 : mm), r = .inr σ9 → WP l G yX9_dropOldest cX9_dropOldest 3 (none) d 0 0 Q 0 0 35 [(0, .ref (G.2.1 x0)), (1, .ref (G.2.1 x1))] [] Γ σ9 := fun σ9 e => kx0 σ9 (hx _ e)
  unfold fX9_dropOldest_L9 at h
  have h := un2_some h
  show WP l G yX9_dropOldest cX9_dropOldest 3 (none) d 0 0 Q 0 0 9 [(0, .ref (G.2.1 x0)), (1, .ref (G.2.1 x1)), (2, .int x2)] [] Γ σ
  refine r_iload_n 2 dX9_dropOldest_9 rfl ?_
  refine r_bipush (v := 8) dX9_dropOldest_10 (by decide) ?_
  refine r_icmp_ge 35 dX9_dropOldest_12 (by decide) h (fun _ h => ?_) (fun _ h => ?_)
  · obtain rfl := Option.some.inj h
    refine r_pick [0, 1] rfl ?_
    exact hx0 _ rfl
  · refine r_aload_n 0 dX9_dropOldest_15 rfl ?_
    refine q_getR (e9 := (5, 0)) dX9_dropOldest_16 fd_X9_13 t0 rfl h (fun r1 tr1 h => ?_)
    refine r_iload_n 2 dX9_dropOldest_19 rfl ?_
    refine r_iconst (v := 1) dX9_dropOldest_20 (by decide) ?_
    refine r_isub dX9_dropOldest_21 ?_
    refine r_aload_n 0 dX9_dropOldest_22 rfl ?_
    refine q_getR (e9 := (5, 0)) dX9_dropOldest_23 fd_X9_13 t0 rfl h (fun r2 tr2 h => ?_)
    refine r_iload_n 2 dX9_dropOldest_26 rfl ?_
    refine q_aald5 dX9_dropOldest_27 tr2 h (fun r3 tr3 h => ?_)
    refine q_aast5 dX9_dropOldest_28 tr1 tr3 h (fun τ4 h => ?_)
    refine q_iinc (v := 1) 2 (fun v5 => [(2, .int v5), (0, .ref (G.2.1 x0)), (1, .ref (G.2.1 x1))]) dX9_dropOldest_29 rfl (by decide) (by decide) (fun _ => rfl) h (fun v5 h => ?_)
    refine r_goto 9 dX9_dropOldest_32 (by decide) ?_
    obtain rfl := Option.some.inj h
    refine r_pick [1, 2, 0] rfl ?_
    exact hb _ _ rfl
theorem kX9_dropOldest {l : Launch} {G : gg} {Γ : ly} {σ : mm} (d : Nat) (hdd : 0 ≤ d) (x0 : Nat) (t0 : tyOK Γ (0, 9) x0) (r : mm) (h : fX9_dropOldest Γ.2 σ x0 = some r) : CT l G yX9_dropOldest cX9_dropOldest 3 (none) d 0 0 [.ref (G.2.1 x0)] Γ σ (PP none Γ r) := by
  refine CT.ofWP (by decide) (Nat.le_of_ble_eq_true rfl) ?_
  have hQ : PP none Γ r none Γ r := PP.self
  generalize PP none Γ r = Q at hQ ⊢
  show WP l G yX9_dropOldest cX9_dropOldest 3 (none) d 0 0 Q 0 0 0 [(0, .ref (G.2.1 x0))] [] Γ σ
  unfold fX9_dropOldest at h
  refine r_aload_n 0 dX9_dropOldest_0 rfl ?_
  refine q_getR (e9 := (5, 0)) dX9_dropOldest_1 fd_X9_13 t0 rfl h (fun r1 tr1 h => ?_)
  refine r_iconst (v := 0) dX9_dropOldest_4 (by decide) ?_
  refine q_aald5 dX9_dropOldest_5 tr1 h (fun r2 tr2 h => ?_)
  refine r_astore_n (lv' := [(1, .ref (G.2.1 r2)), (0, .ref (G.2.1 x0))]) dX9_dropOldest_6 (by decide) rfl ?_
  refine r_iconst (v := 1) dX9_dropOldest_7 (by decide) ?_
  refine r_istore_n (lv' := [(2, .int (1 : Int32)), (1, .ref (G.2.1 r2)), (0, .ref (G.2.1 x0))]) dX9_dropOldest_8 (by decide) rfl ?_
  obtain ⟨b3, eb3, h⟩ := bd0_some h
  refine r_pick [2, 1, 0] rfl ?_
  refine sX9_dropOldest_L9 hdd x0 r2 t0 tr2 (K := fun b => b = b3) ?_ 1000 ((1 : Int32), σ) b3 eb3 rfl
  rintro τ4 rfl
  refine r_aload_n 0 dX9_dropOldest_35 rfl ?_
  refine q_getR (e9 := (5, 0)) dX9_dropOldest_36 fd_X9_13 t0 rfl h (fun r5 tr5 h => ?_)
  refine r_bipush (v := 7) dX9_dropOldest_39 (by decide) ?_
  refine r_aload_n 1 dX9_dropOldest_41 rfl ?_
  refine q_aast5 dX9_dropOldest_42 tr5 tr2 h (fun τ6 h => ?_)
  refine r_aload_n 0 dX9_dropOldest_43 rfl ?_
  refine r_dup dX9_dropOldest_44 rfl ?_
  refine r_getI dX9_dropOldest_45 fd_X9_20 t0 ?_
  refine r_iconst (v := 1) dX9_dropOldest_48 (by decide) ?_
  refine r_isub dX9_dropOldest_49 ?_
  refine q_putI dX9_dropOldest_50 fd_X9_20 t0 h (fun τ7 h => ?_)
  obtain rfl := Option.some.inj h
  exact r_return dX9_dropOldest_53 rfl hQ (Nat.le_refl _) (Nat.le_refl _)
theorem tX9_keep_b13 {l : Launch} {G : gg} {Γ : ly} {d : Nat} {Q : Option Value → ly → mm → Prop} (hdd : 2 ≤ d) (σ : mm) (x0 : Nat) (x1 : Nat)  (t0 : tyOK Γ (0, 9) x0) (t1 : tyOK Γ (0, 3) x1)  (r : mm) (h : fX9_keep_b13 Γ.2 σ x0 x1 = some r) (hQ : Q none Γ r) : WP l G yX9_keep cX9_keep 2 (none) d 0 0 Q 0 0 13 [(0, .ref (G.2.1 x0)), (1, .ref (G.2.1 x1))] [] Γ σ := by
  unfold fX9_keep_b13 at h
  refine r_aload_n 0 dX9_keep_13 rfl ?_
  refine q_getR (e9 := (5, 0)) dX9_keep_14 fd_X9_13 t0 rfl h (fun r1 tr1 h => ?_)
  refine r_aload_n 0 dX9_keep_17 rfl ?_
  refine r_getI dX9_keep_18 fd_X9_20 t0 ?_
  refine q_aald5 dX9_keep_21 tr1 h (fun r2 tr2 h => ?_)
  refine r_aload_n 1 dX9_keep_22 rfl ?_
  obtain ⟨τ3, eτ3, h⟩ := bd0_some h
  refine q_cVV [.ref (G.2.1 x1)] dX9_keep_23 cv_X9_27 (ci := 3) rfl rfl tr2 rfl rfl (Nat.le_of_ble_eq_true rfl) (by omega) (kX3_copyFrom (d - 1) (by omega) r2 x1 tr2 t1 τ3 eτ3) ?_
  refine r_aload_n 0 dX9_keep_26 rfl ?_
  refine r_dup dX9_keep_27 rfl ?_
  refine r_getI dX9_keep_28 fd_X9_20 t0 ?_
  refine r_iconst (v := 1) dX9_keep_31 (by decide) ?_
  refine r_iadd dX9_keep_32 ?_
  refine q_putI dX9_keep_33 fd_X9_20 t0 h (fun τ4 h => ?_)
  obtain rfl := Option.some.inj h
  exact r_return dX9_keep_36 rfl hQ (Nat.le_refl _) (Nat.le_refl _)
theorem kX9_keep {l : Launch} {G : gg} {Γ : ly} {σ : mm} (d : Nat) (hdd : 2 ≤ d) (x0 : Nat) (x1 : Nat) (t0 : tyOK Γ (0, 9) x0) (t1 : tyOK Γ (0, 3) x1) (r : mm) (h : fX9_keep Γ.2 σ x0 x1 = some r) : CT l G yX9_keep cX9_keep 2 (none) d 0 0 [.ref (G.2.1 x0), .ref (G.2.1 x1)] Γ σ (PP none Γ r) := by
  refine CT.ofWP (by decide) (Nat.le_of_ble_eq_true rfl) ?_
  have hQ : PP none Γ r none Γ r := PP.self
  generalize PP none Γ r = Q at hQ ⊢
  show WP l G yX9_keep cX9_keep 2 (none) d 0 0 Q 0 0 0 [(0, .ref (G.2.1 x0)), (1, .ref (G.2.1 x1))] [] Γ σ
  unfold fX9_keep at h
  refine r_aload_n 0 dX9_keep_0 rfl ?_
  refine r_getI dX9_keep_1 fd_X9_20 t0 ?_
  refine r_bipush (v := 8) dX9_keep_4 (by decide) ?_
  refine r_icmp_ne 13 dX9_keep_6 (by decide) h (fun _ h => ?_) (fun _ h => ?_)
  · exact tX9_keep_b13 hdd σ x0 x1 t0 t1 _ h hQ
  · refine r_aload_n 0 dX9_keep_9 rfl ?_
    obtain ⟨τ1, eτ1, h⟩ := bd0_some h
    refine q_cVV [] dX9_keep_10 cv_X9_24 (ci := 9) rfl rfl t0 rfl rfl (Nat.le_of_ble_eq_true rfl) (by omega) (kX9_dropOldest (d - 1) (by omega) x0 t0 τ1 eτ1) ?_
    exact tX9_keep_b13 hdd τ1 x0 x1 t0 t1 _ h hQ
theorem kX9_takeBack {l : Launch} {G : gg} {Γ : ly} {σ : mm} (d : Nat) (hdd : 2 ≤ d) (x0 : Nat) (x1 : Nat) (t0 : tyOK Γ (0, 9) x0) (t1 : tyOK Γ (0, 3) x1) (r : (Int32 × mm)) (h : fX9_takeBack Γ.2 σ x0 x1 = some r) : CT l G yX9_takeBack cX9_takeBack 2 (some .int) d 0 0 [.ref (G.2.1 x0), .ref (G.2.1 x1)] Γ σ (PP (some (.int r.1)) Γ r.2) := by
  refine CT.ofWP (by decide) (Nat.le_of_ble_eq_true rfl) ?_
  have hQ : PP (some (.int r.1)) Γ r.2 (some (.int r.1)) Γ r.2 := PP.self
  generalize PP (some (.int r.1)) Γ r.2 = Q at hQ ⊢
  show WP l G yX9_takeBack cX9_takeBack 2 (some .int) d 0 0 Q 0 0 0 [(0, .ref (G.2.1 x0)), (1, .ref (G.2.1 x1))] [] Γ σ
  unfold fX9_takeBack at h
  refine r_aload_n 0 dX9_takeBack_0 rfl ?_
  refine r_getI dX9_takeBack_1 fd_X9_20 t0 ?_
  refine r_if_ne 9 dX9_takeBack_4 (by decide) h (fun _ h => ?_) (fun _ h => ?_)
  · refine r_aload_n 0 dX9_takeBack_9 rfl ?_
    refine r_dup dX9_takeBack_10 rfl ?_
    refine r_getI dX9_takeBack_11 fd_X9_20 t0 ?_
    refine r_iconst (v := 1) dX9_takeBack_14 (by decide) ?_
    refine r_isub dX9_takeBack_15 ?_
    refine q_putI dX9_takeBack_16 fd_X9_20 t0 h (fun τ1 h => ?_)
    refine r_aload_n 1 dX9_takeBack_19 rfl ?_
    refine r_aload_n 0 dX9_takeBack_20 rfl ?_
    refine q_getR (e9 := (5, 0)) dX9_takeBack_21 fd_X9_13 t0 rfl h (fun r2 tr2 h => ?_)
    refine r_aload_n 0 dX9_takeBack_24 rfl ?_
    refine r_getI dX9_takeBack_25 fd_X9_20 t0 ?_
    refine q_aald5 dX9_takeBack_28 tr2 h (fun r3 tr3 h => ?_)
    obtain ⟨τ4, eτ4, h⟩ := bd0_some h
    refine q_cVV [.ref (G.2.1 r3)] dX9_takeBack_29 cv_X9_27 (ci := 3) rfl rfl t1 rfl rfl (Nat.le_of_ble_eq_true rfl) (by omega) (kX3_copyFrom (d - 1) (by omega) x1 r3 t1 tr3 τ4 eτ4) ?_
    refine r_aload_n 0 dX9_takeBack_32 rfl ?_
    refine r_getI dX9_takeBack_33 fd_X9_20 t0 ?_
    obtain rfl := Option.some.inj h
    exact r_ireturn dX9_takeBack_36 rfl hQ (Nat.le_refl _) (Nat.le_refl _)
  · refine r_iconst (v := -1) dX9_takeBack_7 (by decide) ?_
    obtain rfl := Option.some.inj h
    exact r_ireturn dX9_takeBack_8 rfl hQ (Nat.le_refl _) (Nat.le_refl _)
theorem tX10_wakingAt_b22 {l : Launch} {G : gg} {Γ : ly} {d : Nat} {Q : Option Value → ly → mm → Prop} (hdd : 0 ≤ d) (σ : mm)  (s0 : Int32)   (r : Int32) (h : fX10_wakingAt_b22 Γ.2 σ s0 = some r) (hQ : Q (some (.int r)) Γ σ) : WP l G yX10_wakingAt cX10_wakingAt 2 (some .int) d 0 0 Q 0 0 22 [] [.int s0] Γ σ := by
  unfold fX10_wakingAt_b22 at h
  obtain rfl := Option.some.inj h
  exact r_ireturn dX10_wakingAt_22 rfl hQ (Nat.le_refl _) (Nat.le_refl _)
theorem tX10_wakingAt_b21 {l : Launch} {G : gg} {Γ : ly} {d : Nat} {Q : Option Value → ly → mm → Prop} (hdd : 0 ≤ d) (σ : mm)     (r : Int32) (h : fX10_wakingAt_b21 Γ.2 σ  = some r) (hQ : Q (some (.int r)) Γ σ) : WP l G yX10_wakingAt cX10_wakingAt 2 (some .int) d 0 0 Q 0 0 21 [] [] Γ σ := by
  unfold fX10_wakingAt_b21 at h
  refine r_iconst (v := -1) dX10_wakingAt_21 (by decide) ?_
  exact tX10_wakingAt_b22 hdd σ (-1 : Int32)  _ h hQ
theorem kX10_wakingAt {l : Launch} {G : gg} {Γ : ly} {σ : mm} (d : Nat) (hdd : 0 ≤ d) (x0 : Nat) (x1 : Int32) (t0 : tyOK Γ (0, 10) x0) (r : Int32) (h : fX10_wakingAt Γ.2 σ x0 x1 = some r) : CT l G yX10_wakingAt cX10_wakingAt 2 (some .int) d 0 0 [.ref (G.2.1 x0), .int x1] Γ σ (PP (some (.int r)) Γ σ) := by
  refine CT.ofWP (by decide) (Nat.le_of_ble_eq_true rfl) ?_
  have hQ : PP (some (.int r)) Γ σ (some (.int r)) Γ σ := PP.self
  generalize PP (some (.int r)) Γ σ = Q at hQ ⊢
  show WP l G yX10_wakingAt cX10_wakingAt 2 (some .int) d 0 0 Q 0 0 0 [(0, .ref (G.2.1 x0)), (1, .int x1)] [] Γ σ
  unfold fX10_wakingAt at h
  refine r_iload_n 1 dX10_wakingAt_0 rfl ?_
  refine r_if_lt 21 dX10_wakingAt_1 (by decide) h (fun _ h => ?_) (fun _ h => ?_)
  · refine r_pick [] rfl ?_
    exact tX10_wakingAt_b21 hdd σ  _ h hQ
  · refine r_iload_n 1 dX10_wakingAt_4 rfl ?_
    refine r_aload_n 0 dX10_wakingAt_5 rfl ?_
    refine r_getI dX10_wakingAt_6 fd_X10_25 t0 ?_
    refine r_icmp_ge 21 dX10_wakingAt_9 (by decide) h (fun _ h => ?_) (fun _ h => ?_)
    · refine r_pick [] rfl ?_
      exact tX10_wakingAt_b21 hdd σ  _ h hQ
    · refine r_aload_n 0 dX10_wakingAt_12 rfl ?_
      refine q_getR (e9 := (1, 0)) dX10_wakingAt_13 fd_X10_18 t0 rfl h (fun r1 tr1 h => ?_)
      refine r_iload_n 1 dX10_wakingAt_16 rfl ?_
      refine q_iald dX10_wakingAt_17 tr1 h (fun v2 h => ?_)
      refine r_goto 22 dX10_wakingAt_18 (by decide) ?_
      refine r_pick [] rfl ?_
      exact tX10_wakingAt_b22 hdd σ v2  _ h hQ
theorem tX10_fewestFrom_b15 {l : Launch} {G : gg} {Γ : ly} {d : Nat} {Q : Option Value → ly → mm → Prop} (hdd : 1 ≤ d) (σ : mm)     (r : Int32) (h : fX10_fewestFrom_b15 Γ.2 σ  = some r) (hQ : Q (some (.int r)) Γ σ) : WP l G yX10_fewestFrom cX10_fewestFrom 3 (some .int) d 0 0 Q 0 0 15 [] [] Γ σ := by
  unfold fX10_fewestFrom_b15 at h
  refine r_sipush (v := 1000) dX10_fewestFrom_15 (by decide) ?_
  obtain rfl := Option.some.inj h
  exact r_ireturn dX10_fewestFrom_18 rfl hQ (Nat.le_refl _) (Nat.le_refl _)
theorem tX10_fewestFrom_b42 {l : Launch} {G : gg} {Γ : ly} {d : Nat} {Q : Option Value → ly → mm → Prop} (hdd : 1 ≤ d) (σ : mm)  (s0 : Int32)   (r : Int32) (h : fX10_fewestFrom_b42 Γ.2 σ s0 = some r) (hQ : Q (some (.int r)) Γ σ) : WP l G yX10_fewestFrom cX10_fewestFrom 3 (some .int) d 0 0 Q 0 0 42 [] [.int s0] Γ σ := by
  unfold fX10_fewestFrom_b42 at h
  obtain rfl := Option.some.inj h
  exact r_ireturn dX10_fewestFrom_42 rfl hQ (Nat.le_refl _) (Nat.le_refl _)
theorem kX10_fewestFrom {l : Launch} {G : gg} {Γ : ly} {σ : mm} (d : Nat) (hdd : 1 ≤ d) (x0 : Nat) (x1 : Int32) (x2 : Int32) (t0 : tyOK Γ (0, 10) x0) (r : Int32) (h : fX10_fewestFrom Γ.2 σ x0 x1 x2 = some r) : CT l G yX10_fewestFrom cX10_fewestFrom 3 (some .int) d 0 0 [.ref (G.2.1 x0), .int x1, .int x2] Γ σ (PP (some (.int r)) Γ σ) := by
  refine CT.ofWP (by decide) (Nat.le_of_ble_eq_true rfl) ?_
  have hQ : PP (some (.int r)) Γ σ (some (.int r)) Γ σ := PP.self
  generalize PP (some (.int r)) Γ σ = Q at hQ ⊢
  show WP l G yX10_fewestFrom cX10_fewestFrom 3 (some .int) d 0 0 Q 0 0 0 [(0, .ref (G.2.1 x0)), (1, .int x1), (2, .int x2)] [] Γ σ
  unfold fX10_fewestFrom at h
  refine r_iload_n 2 dX10_fewestFrom_0 rfl ?_
  refine r_if_lt 15 dX10_fewestFrom_1 (by decide) h (fun _ h => ?_) (fun _ h => ?_)
  · refine r_pick [] rfl ?_
    exact tX10_fewestFrom_b15 hdd σ  _ h hQ
  · refine r_iload_n 2 dX10_fewestFrom_4 rfl ?_
    refine r_aload_n 0 dX10_fewestFrom_5 rfl ?_
    refine q_getR (e9 := (0, 1)) dX10_fewestFrom_6 fd_X10_21 t0 rfl h (fun r1 tr1 h => ?_)
    obtain ⟨v2, ev2, h⟩ := bd0_some h
    refine q_cVI [] dX10_fewestFrom_9 cv_X10_64 (ci := 1) rfl rfl tr1 rfl rfl (Nat.le_of_ble_eq_true rfl) (by omega) (kX1_grace (d - 1) (by omega) r1 tr1 v2 ev2) ?_
    refine r_icmp_lt 19 dX10_fewestFrom_12 (by decide) h (fun _ h => ?_) (fun _ h => ?_)
    · refine r_iload_n 1 dX10_fewestFrom_19 rfl ?_
      refine r_aload_n 0 dX10_fewestFrom_20 rfl ?_
      refine r_getI dX10_fewestFrom_21 fd_X10_38 t0 ?_
      refine r_icmp_ge 41 dX10_fewestFrom_24 (by decide) h (fun _ h => ?_) (fun _ h => ?_)
      · refine r_iconst (v := 0) dX10_fewestFrom_41 (by decide) ?_
        refine r_pick [] rfl ?_
        exact tX10_fewestFrom_b42 hdd σ (0 : Int32)  _ h hQ
      · refine r_aload_n 0 dX10_fewestFrom_27 rfl ?_
        refine q_getR (e9 := (1, 0)) dX10_fewestFrom_28 fd_X10_9 t0 rfl h (fun r3 tr3 h => ?_)
        refine r_iload_n 1 dX10_fewestFrom_31 rfl ?_
        refine r_bipush (v := 9) dX10_fewestFrom_32 (by decide) ?_
        refine r_imul dX10_fewestFrom_34 ?_
        refine r_iload_n 2 dX10_fewestFrom_35 rfl ?_
        refine r_iadd dX10_fewestFrom_36 ?_
        refine q_iald dX10_fewestFrom_37 tr3 h (fun v4 h => ?_)
        refine r_goto 42 dX10_fewestFrom_38 (by decide) ?_
        refine r_pick [] rfl ?_
        exact tX10_fewestFrom_b42 hdd σ v4  _ h hQ
    · refine r_pick [] rfl ?_
      exact tX10_fewestFrom_b15 hdd σ  _ h hQ
theorem tX10_costOfWaking_b42 {l : Launch} {G : gg} {Γ : ly} {d : Nat} {Q : Option Value → ly → mm → Prop} (hdd : 2 ≤ d) (σ : mm)  (s0 : Int32)   (r : Int32) (h : fX10_costOfWaking_b42 Γ.2 σ s0 = some r) (hQ : Q (some (.int r)) Γ σ) : WP l G yX10_costOfWaking cX10_costOfWaking 3 (some .int) d 0 0 Q 0 0 42 [] [.int s0] Γ σ := by
  unfold fX10_costOfWaking_b42 at h
  obtain rfl := Option.some.inj h
  exact r_ireturn dX10_costOfWaking_42 rfl hQ (Nat.le_refl _) (Nat.le_refl _)
theorem kX10_costOfWaking {l : Launch} {G : gg} {Γ : ly} {σ : mm} (d : Nat) (hdd : 2 ≤ d) (x0 : Nat) (x1 : Int32) (t0 : tyOK Γ (0, 10) x0) (r : Int32) (h : fX10_costOfWaking Γ.2 σ x0 x1 = some r) : CT l G yX10_costOfWaking cX10_costOfWaking 3 (some .int) d 0 0 [.ref (G.2.1 x0), .int x1] Γ σ (PP (some (.int r)) Γ σ) := by
  refine CT.ofWP (by decide) (Nat.le_of_ble_eq_true rfl) ?_
  have hQ : PP (some (.int r)) Γ σ (some (.int r)) Γ σ := PP.self
  generalize PP (some (.int r)) Γ σ = Q at hQ ⊢
  show WP l G yX10_costOfWaking cX10_costOfWaking 3 (some .int) d 0 0 Q 0 0 0 [(0, .ref (G.2.1 x0)), (1, .int x1)] [] Γ σ
  unfold fX10_costOfWaking at h
  refine r_aload_n 0 dX10_costOfWaking_0 rfl ?_
  refine q_getR (e9 := (0, 1)) dX10_costOfWaking_1 fd_X10_21 t0 rfl h (fun r1 tr1 h => ?_)
  refine r_aload_n 0 dX10_costOfWaking_4 rfl ?_
  refine q_getR (e9 := (0, 1)) dX10_costOfWaking_5 fd_X10_21 t0 rfl h (fun r2 tr2 h => ?_)
  obtain ⟨v3, ev3, h⟩ := bd0_some h
  refine q_cVI [] dX10_costOfWaking_8 cv_X10_51 (ci := 1) rfl rfl tr2 rfl rfl (Nat.le_of_ble_eq_true rfl) (by omega) (kX1_start (d - 1) (by omega) r2 tr2 v3 ev3) ?_
  refine r_iload_n 1 dX10_costOfWaking_11 rfl ?_
  refine r_iadd dX10_costOfWaking_12 ?_
  refine r_bipush (v := 12) dX10_costOfWaking_13 (by decide) ?_
  obtain ⟨v4, ev4, h⟩ := bd0_some h
  refine q_cVI [.int (v3 + x1), .int (12 : Int32)] dX10_costOfWaking_15 cv_X10_81 (ci := 1) rfl rfl tr1 rfl rfl (Nat.le_of_ble_eq_true rfl) (by omega) (kX1_has (d - 1) (by omega) r1 (v3 + x1) (12 : Int32) tr1 v4 ev4) ?_
  refine r_istore_n (lv' := [(2, .int v4), (0, .ref (G.2.1 x0)), (1, .int x1)]) dX10_costOfWaking_18 (by decide) rfl ?_
  refine r_iload_n 0 dX10_costOfWaking_19 rfl ?_
  refine r_if_eq 39 dX10_costOfWaking_20 (by decide) h (fun _ h => ?_) (fun _ h => ?_)
  · refine r_sipush (v := 1000) dX10_costOfWaking_39 (by decide) ?_
    refine r_pick [] rfl ?_
    exact tX10_costOfWaking_b42 hdd σ (1000 : Int32)  _ h hQ
  · refine r_iconst (v := 1) dX10_costOfWaking_23 (by decide) ?_
    refine r_aload_n 1 dX10_costOfWaking_24 rfl ?_
    refine r_aload_n 1 dX10_costOfWaking_25 rfl ?_
    refine q_getR (e9 := (1, 0)) dX10_costOfWaking_26 fd_X10_15 t0 rfl h (fun r5 tr5 h => ?_)
    refine r_iload_n 2 dX10_costOfWaking_29 rfl ?_
    refine q_iald dX10_costOfWaking_30 tr5 h (fun v6 h => ?_)
    refine r_iconst (v := 0) dX10_costOfWaking_31 (by decide) ?_
    obtain ⟨v7, ev7, h⟩ := bd0_some h
    refine q_cVI [.int v6, .int (0 : Int32)] dX10_costOfWaking_32 cv_X10_57 (ci := 10) rfl rfl t0 rfl rfl (Nat.le_of_ble_eq_true rfl) (by omega) (kX10_fewestFrom (d - 1) (by omega) x0 v6 (0 : Int32) t0 v7 ev7) ?_
    refine r_iadd dX10_costOfWaking_35 ?_
    refine r_goto 42 dX10_costOfWaking_36 (by decide) ?_
    refine r_pick [] rfl ?_
    exact tX10_costOfWaking_b42 hdd σ ((1 : Int32) + v7)  _ h hQ
theorem tX10_noteWakings_b148 {l : Launch} {G : gg} {Γ : ly} {d : Nat} {Q : Option Value → ly → mm → Prop} (hdd : 3 ≤ d) (σ : mm) (x0 : Nat) (x4 : Int32) (s0 : Int32) (t0 : tyOK Γ (0, 10) x0)  (r : ((Int32 × Int32 × mm) ⊕ mm)) (h : fX10_noteWakings_b148 Γ.2 σ x0 x4 s0 = some r) (hb : ∀ (x3 : Int32) (x4 : Int32) (σ9 : mm), r = .inl (x3, x4, σ9) → WP l G yX10_noteWakings cX10_noteWakings 7 (none) d 0 0 Q 0 0 10 [(0, .ref (G.2.1 x0)), (3, .int x3), (4, .int x4)] [] Γ σ9) (hx0 : ∀ (σ9 : mm), r = .inr σ9 → WP l G yX10_noteWakings cX10_noteWakings 7 (none) d 0 0 Q 0 0 152 [] [] Γ σ9) : WP l G yX10_noteWakings cX10_noteWakings 7 (none) d 0 0 Q 0 0 148 [(0, .ref (G.2.1 x0)), (4, .int x4)] [.int s0] Γ σ := by
  unfold fX10_noteWakings_b148 at h
  refine r_istore_n (lv' := [(3, .int s0), (0, .ref (G.2.1 x0)), (4, .int x4)]) dX10_noteWakings_148 (by decide) rfl ?_
  refine r_goto 10 dX10_noteWakings_149 (by decide) ?_
  obtain rfl := Option.some.inj h
  refine r_pick [1, 0, 2] rfl ?_
  exact hb _ _ _ rfl
theorem tX10_noteWakings_b123 {l : Launch} {G : gg} {Γ : ly} {d : Nat} {Q : Option Value → ly → mm → Prop} (hdd : 3 ≤ d) (σ : mm) (x0 : Nat) (x3 : Int32) (x6 : Int32) (s0 : Int32) (t0 : tyOK Γ (0, 10) x0)  (r : ((Int32 × Int32 × mm) ⊕ mm)) (h : fX10_noteWakings_b123 Γ.2 σ x0 x3 x6 s0 = some r) (hb : ∀ (x3 : Int32) (x4 : Int32) (σ9 : mm), r = .inl (x3, x4, σ9) → WP l G yX10_noteWakings cX10_noteWakings 7 (none) d 0 0 Q 0 0 10 [(0, .ref (G.2.1 x0)), (3, .int x3), (4, .int x4)] [] Γ σ9) (hx0 : ∀ (σ9 : mm), r = .inr σ9 → WP l G yX10_noteWakings cX10_noteWakings 7 (none) d 0 0 Q 0 0 152 [] [] Γ σ9) : WP l G yX10_noteWakings cX10_noteWakings 7 (none) d 0 0 Q 0 0 123 [(0, .ref (G.2.1 x0)), (3, .int x3), (6, .int x6)] [.int s0] Γ σ := by
  unfold fX10_noteWakings_b123 at h
  refine r_istore (lv' := [(4, .int s0), (0, .ref (G.2.1 x0)), (3, .int x3), (6, .int x6)]) dX10_noteWakings_123 (by decide) rfl ?_
  refine r_iload 3 dX10_noteWakings_125 rfl ?_
  refine r_if_eq 145 dX10_noteWakings_127 (by decide) h (fun _ h => ?_) (fun _ h => ?_)
  · refine r_iload_n 2 dX10_noteWakings_145 rfl ?_
    refine r_iconst (v := 1) dX10_noteWakings_146 (by decide) ?_
    refine r_iadd dX10_noteWakings_147 ?_
    refine r_pick [1, 0] rfl ?_
    exact tX10_noteWakings_b148 hdd σ x0 s0 (x3 + (1 : Int32)) t0 _ h hb hx0
  · refine r_iload_n 2 dX10_noteWakings_130 rfl ?_
    refine r_iconst (v := 1) dX10_noteWakings_131 (by decide) ?_
    refine r_iadd dX10_noteWakings_132 ?_
    refine r_aload_n 1 dX10_noteWakings_133 rfl ?_
    refine q_getR (e9 := (1, 0)) dX10_noteWakings_134 fd_X10_15 t0 rfl h (fun r1 tr1 h => ?_)
    refine r_iload_n 2 dX10_noteWakings_137 rfl ?_
    refine q_iald dX10_noteWakings_138 tr1 h (fun v2 h => ?_)
    refine r_max dX10_noteWakings_139 mx_X10_35 (Nat.le_of_ble_eq_true rfl) (by omega) (Nat.le_refl _) (Nat.le_refl _) ?_
    refine r_goto 148 dX10_noteWakings_142 (by decide) ?_
    refine r_pick [1, 0] rfl ?_
    exact tX10_noteWakings_b148 hdd σ x0 s0 (mxI (x3 + (1 : Int32)) v2) t0 _ h hb hx0
theorem tX10_noteWakings_b110 {l : Launch} {G : gg} {Γ : ly} {d : Nat} {Q : Option Value → ly → mm → Prop} (hdd : 3 ≤ d) (σ : mm) (x0 : Nat) (x3 : Int32) (x4 : Int32) (x6 : Int32)  (t0 : tyOK Γ (0, 10) x0)  (r : ((Int32 × Int32 × mm) ⊕ mm)) (h : fX10_noteWakings_b110 Γ.2 σ x0 x3 x4 x6 = some r) (hb : ∀ (x3 : Int32) (x4 : Int32) (σ9 : mm), r = .inl (x3, x4, σ9) → WP l G yX10_noteWakings cX10_noteWakings 7 (none) d 0 0 Q 0 0 10 [(0, .ref (G.2.1 x0)), (3, .int x3), (4, .int x4)] [] Γ σ9) (hx0 : ∀ (σ9 : mm), r = .inr σ9 → WP l G yX10_noteWakings cX10_noteWakings 7 (none) d 0 0 Q 0 0 152 [] [] Γ σ9) : WP l G yX10_noteWakings cX10_noteWakings 7 (none) d 0 0 Q 0 0 110 [(0, .ref (G.2.1 x0)), (3, .int x3), (4, .int x4), (6, .int x6)] [] Γ σ := by
  unfold fX10_noteWakings_b110 at h
  refine r_iload 3 dX10_noteWakings_110 rfl ?_
  refine r_if_eq 119 dX10_noteWakings_112 (by decide) h (fun _ h => ?_) (fun _ h => ?_)
  · refine r_iload 2 dX10_noteWakings_119 rfl ?_
    refine r_iconst (v := 1) dX10_noteWakings_121 (by decide) ?_
    refine r_iadd dX10_noteWakings_122 ?_
    refine r_pick [0, 1, 3] rfl ?_
    exact tX10_noteWakings_b123 hdd σ x0 x3 x6 (x4 + (1 : Int32)) t0 _ h hb hx0
  · refine r_iconst (v := 0) dX10_noteWakings_115 (by decide) ?_
    refine r_goto 123 dX10_noteWakings_116 (by decide) ?_
    refine r_pick [0, 1, 3] rfl ?_
    exact tX10_noteWakings_b123 hdd σ x0 x3 x6 (0 : Int32) t0 _ h hb hx0
theorem tX10_noteWakings_b95 {l : Launch} {G : gg} {Γ : ly} {d : Nat} {Q : Option Value → ly → mm → Prop} (hdd : 3 ≤ d) (σ : mm) (x0 : Nat) (x3 : Int32) (x4 : Int32) (s0 : Nat) (s1 : Int32) (s2 : Int32) (s3 : Int32) (t0 : tyOK Γ (0, 10) x0) (u0 : tyOK Γ (1, 0) s0) (r : ((Int32 × Int32 × mm) ⊕ mm)) (h : fX10_noteWakings_b95 Γ.2 σ x0 x3 x4 s0 s1 s2 s3 = some r) (hb : ∀ (x3 : Int32) (x4 : Int32) (σ9 : mm), r = .inl (x3, x4, σ9) → WP l G yX10_noteWakings cX10_noteWakings 7 (none) d 0 0 Q 0 0 10 [(0, .ref (G.2.1 x0)), (3, .int x3), (4, .int x4)] [] Γ σ9) (hx0 : ∀ (σ9 : mm), r = .inr σ9 → WP l G yX10_noteWakings cX10_noteWakings 7 (none) d 0 0 Q 0 0 152 [] [] Γ σ9) : WP l G yX10_noteWakings cX10_noteWakings 7 (none) d 0 0 Q 0 0 95 [(0, .ref (G.2.1 x0)), (3, .int x3), (4, .int x4)] [.int s3, .int s2, .int s1, .ref (G.2.1 s0)] Γ σ := by
  unfold fX10_noteWakings_b95 at h
  refine r_iadd dX10_noteWakings_95 ?_
  refine q_iast dX10_noteWakings_96 u0 h (fun τ1 h => ?_)
  refine r_aload_n 0 dX10_noteWakings_97 rfl ?_
  refine r_dup dX10_noteWakings_98 rfl ?_
  refine r_getI dX10_noteWakings_99 fd_X10_25 t0 ?_
  refine r_iconst (v := 1) dX10_noteWakings_102 (by decide) ?_
  refine r_iadd dX10_noteWakings_103 ?_
  refine q_putI dX10_noteWakings_104 fd_X10_25 t0 h (fun τ2 h => ?_)
  refine r_iconst (v := 1) dX10_noteWakings_107 (by decide) ?_
  refine r_istore (lv' := [(6, .int (1 : Int32)), (0, .ref (G.2.1 x0)), (3, .int x3), (4, .int x4)]) dX10_noteWakings_108 (by decide) rfl ?_
  refine r_pick [1, 2, 3, 0] rfl ?_
  exact tX10_noteWakings_b110 hdd τ2 x0 x3 x4 (1 : Int32) t0 _ h hb hx0
theorem sX10_noteWakings_L10 {l : Launch} {G : gg} {Γ : ly} {d : Nat} {Q : Option Value → ly → mm → Prop} (hdd : 3 ≤ d) (x0 : Nat) (t0 : tyOK Γ (0, 10) x0) {K : mm → Prop} (kx0 : ∀ (σ9 : mm), K σ9 → WP l G yX10_noteWakings cX10_noteWakings 7 (none) d 0 0 Q 0 0 152 [] [] Γ σ9) : ∀ (N : Nat) (s : (Int32 × Int32 × mm)) (b : mm), loopN (fX10_noteWakings_L10 Γ.2 x0) N s = some b → K b → WP l G yX10_noteWakings cX10_noteWakings 7 (none) d 0 0 Q 0 0 10 [(0, .ref (G.2.1 x0)), (3, .int s.1), (4, .int s.2.1)] [] Γ s.2.2 := by
  refine r_loop (f := fX10_noteWakings_L10 Γ.2 x0) (hlv := fun s => [(0, .ref (G.2.1 x0)), (3, .int s.1), (4, .int s.2.1)]) (hsg := fun s => s.2.2) ?_
  rintro ⟨x3, x4, σ⟩ r h hb hx
  have hb : ∀ (x3 : Int32) (x4 : Int32) (σ : mm), r = .inl (x3, x4, σ) → WP l G yX10_noteWakings cX10_noteWakings 7 (none) d 0 0 Q 0 0 10 [(0, .ref (G.2.1 x0)), (3, .int x3), (4, .int x4)] [] Γ σ := fun x3 x4 σ e => hb (x3, x4, σ) e
  have hx0 : ∀ (σ9 : mm), r = .inr σ9 → WP l G yX10_noteWakings cX10_noteWakings 7 (none) d 0 0 Q 0 0 152 [] [] Γ σ9 := fun σ9 e => kx0 σ9 (hx _ e)
  unfold fX10_noteWakings_L10 at h
  have h := un3_some h
  show WP l G yX10_noteWakings cX10_noteWakings 7 (none) d 0 0 Q 0 0 10 [(0, .ref (G.2.1 x0)), (3, .int x3), (4, .int x4)] [] Γ σ
  refine r_iload_n 1 dX10_noteWakings_10 rfl ?_
  refine r_aload_n 0 dX10_noteWakings_11 rfl ?_
  refine r_getI dX10_noteWakings_12 fd_X10_38 t0 ?_
  refine r_icmp_ge 152 dX10_noteWakings_15 (by decide) h (fun _ h => ?_) (fun _ h => ?_)
  · obtain rfl := Option.some.inj h
    refine r_pick [] rfl ?_
    exact hx0 _ rfl
  · refine r_aload_n 0 dX10_noteWakings_18 rfl ?_
    refine q_getR (e9 := (0, 1)) dX10_noteWakings_19 fd_X10_21 t0 rfl h (fun r1 tr1 h => ?_)
    obtain ⟨v2, ev2, h⟩ := bd0_some h
    refine q_cVI [] dX10_noteWakings_22 cv_X10_51 (ci := 1) rfl rfl tr1 rfl rfl (Nat.le_of_ble_eq_true rfl) (by omega) (kX1_start (d - 1) (by omega) r1 tr1 v2 ev2) ?_
    refine r_iload_n 1 dX10_noteWakings_25 rfl ?_
    refine r_iadd dX10_noteWakings_26 ?_
    refine q_nmI h (fun v3 h => ?_)
    refine r_istore (lv' := [(5, .int v3), (0, .ref (G.2.1 x0)), (3, .int x3), (4, .int x4)]) dX10_noteWakings_27 (by decide) rfl ?_
    refine r_aload_n 1 dX10_noteWakings_29 rfl ?_
    refine q_getR (e9 := (0, 1)) dX10_noteWakings_30 fd_X10_21 t0 rfl h (fun r4 tr4 h => ?_)
    refine r_iload 0 dX10_noteWakings_33 rfl ?_
    obtain ⟨v5, ev5, h⟩ := bd0_some h
    refine q_cVI [.int v3] dX10_noteWakings_35 cv_X10_73 (ci := 1) rfl rfl tr4 rfl rfl (Nat.le_of_ble_eq_true rfl) (by omega) (kX1_isSomeoneWilling (d - 1) (by omega) r4 v3 tr4 v5 ev5) ?_
    refine r_istore (lv' := [(6, .int v5), (5, .int v3), (0, .ref (G.2.1 x0)), (3, .int x3), (4, .int x4)]) dX10_noteWakings_38 (by decide) rfl ?_
    refine r_iload 0 dX10_noteWakings_40 rfl ?_
    refine r_if_ne 110 dX10_noteWakings_42 (by decide) h (fun _ h => ?_) (fun _ h => ?_)
    · refine r_pick [2, 3, 4, 0] rfl ?_
      exact tX10_noteWakings_b110 hdd σ x0 x3 x4 v5 t0 _ h hb hx0
    · refine r_aload_n 2 dX10_noteWakings_45 rfl ?_
      refine r_iload_n 3 dX10_noteWakings_46 rfl ?_
      refine r_iconst (v := 1) dX10_noteWakings_47 (by decide) ?_
      refine r_iadd dX10_noteWakings_48 ?_
      refine r_iload 4 dX10_noteWakings_49 rfl ?_
      refine r_iconst (v := 1) dX10_noteWakings_51 (by decide) ?_
      refine r_iadd dX10_noteWakings_52 ?_
      obtain ⟨v6, ev6, h⟩ := bd0_some h
      refine q_cVI [.int (x3 + (1 : Int32)), .int (x4 + (1 : Int32))] dX10_noteWakings_53 cv_X10_57 (ci := 10) rfl rfl t0 rfl rfl (Nat.le_of_ble_eq_true rfl) (by omega) (kX10_fewestFrom (d - 1) (by omega) x0 (x3 + (1 : Int32)) (x4 + (1 : Int32)) t0 v6 ev6) ?_
      refine r_aload_n 2 dX10_noteWakings_56 rfl ?_
      refine r_iload_n 3 dX10_noteWakings_57 rfl ?_
      obtain ⟨v7, ev7, h⟩ := bd0_some h
      refine q_cVI [.int x3] dX10_noteWakings_58 cv_X10_77 (ci := 10) rfl rfl t0 rfl rfl (Nat.le_of_ble_eq_true rfl) (by omega) (kX10_costOfWaking (d - 1) (by omega) x0 x3 t0 v7 ev7) ?_
      refine r_icmp_le 110 dX10_noteWakings_61 (by decide) h (fun _ h => ?_) (fun _ h => ?_)
      · refine r_pick [2, 3, 4, 0] rfl ?_
        exact tX10_noteWakings_b110 hdd σ x0 x3 x4 v5 t0 _ h hb hx0
      · refine r_aload_n 2 dX10_noteWakings_64 rfl ?_
        refine q_getR (e9 := (1, 0)) dX10_noteWakings_65 fd_X10_18 t0 rfl h (fun r8 tr8 h => ?_)
        refine r_aload_n 2 dX10_noteWakings_68 rfl ?_
        refine r_getI dX10_noteWakings_69 fd_X10_25 t0 ?_
        refine r_bipush (v := 10) dX10_noteWakings_72 (by decide) ?_
        refine r_iload 1 dX10_noteWakings_74 rfl ?_
        refine r_imul dX10_noteWakings_76 ?_
        refine r_aload_n 2 dX10_noteWakings_77 rfl ?_
        refine q_getR (e9 := (0, 1)) dX10_noteWakings_78 fd_X10_21 t0 rfl h (fun r9 tr9 h => ?_)
        refine r_iload 1 dX10_noteWakings_81 rfl ?_
        refine r_iconst (v := 4) dX10_noteWakings_83 (by decide) ?_
        obtain ⟨v10, ev10, h⟩ := bd0_some h
        refine q_cVI [.int v3, .int (4 : Int32)] dX10_noteWakings_84 cv_X10_81 (ci := 1) rfl rfl tr9 rfl rfl (Nat.le_of_ble_eq_true rfl) (by omega) (kX1_has (d - 1) (by omega) r9 v3 (4 : Int32) tr9 v10 ev10) ?_
        refine r_if_eq 94 dX10_noteWakings_87 (by decide) h (fun _ h => ?_) (fun _ h => ?_)
        · refine r_iconst (v := 1) dX10_noteWakings_94 (by decide) ?_
          refine r_pick [2, 3, 4] rfl ?_
          exact tX10_noteWakings_b95 hdd σ x0 x3 x4 r8 (σ.1 x0 4) ((10 : Int32) * v3) (1 : Int32) t0 tr8 _ h hb hx0
        · refine r_iconst (v := 0) dX10_noteWakings_90 (by decide) ?_
          refine r_goto 95 dX10_noteWakings_91 (by decide) ?_
          refine r_pick [2, 3, 4] rfl ?_
          exact tX10_noteWakings_b95 hdd σ x0 x3 x4 r8 (σ.1 x0 4) ((10 : Int32) * v3) (0 : Int32) t0 tr8 _ h hb hx0
theorem kX10_noteWakings {l : Launch} {G : gg} {Γ : ly} {σ : mm} (d : Nat) (hdd : 3 ≤ d) (x0 : Nat) (x1 : Int32) (x2 : Int32) (t0 : tyOK Γ (0, 10) x0) (r : mm) (h : fX10_noteWakings Γ.2 σ x0 x1 x2 = some r) : CT l G yX10_noteWakings cX10_noteWakings 7 (none) d 0 0 [.ref (G.2.1 x0), .int x1, .int x2] Γ σ (PP none Γ r) := by
  refine CT.ofWP (by decide) (Nat.le_of_ble_eq_true rfl) ?_
  have hQ : PP none Γ r none Γ r := PP.self
  generalize PP none Γ r = Q at hQ ⊢
  show WP l G yX10_noteWakings cX10_noteWakings 7 (none) d 0 0 Q 0 0 0 [(0, .ref (G.2.1 x0)), (1, .int x1), (2, .int x2)] [] Γ σ
  unfold fX10_noteWakings at h
  refine r_aload_n 0 dX10_noteWakings_0 rfl ?_
  refine r_iconst (v := 0) dX10_noteWakings_1 (by decide) ?_
  refine q_putI dX10_noteWakings_2 fd_X10_25 t0 h (fun τ1 h => ?_)
  refine r_iload_n 1 dX10_noteWakings_5 rfl ?_
  refine r_istore_n (lv' := [(3, .int x1), (0, .ref (G.2.1 x0)), (1, .int x1), (2, .int x2)]) dX10_noteWakings_6 (by decide) rfl ?_
  refine r_iload_n 3 dX10_noteWakings_7 rfl ?_
  refine r_istore (lv' := [(4, .int x2), (3, .int x1), (0, .ref (G.2.1 x0)), (1, .int x1), (2, .int x2)]) dX10_noteWakings_8 (by decide) rfl ?_
  obtain ⟨b2, eb2, h⟩ := bd0_some h
  refine r_pick [2, 1, 0] rfl ?_
  refine sX10_noteWakings_L10 hdd x0 t0 (K := fun b => b = b2) ?_ 1000 (x1, x2, τ1) b2 eb2 rfl
  rintro τ3 rfl
  obtain rfl := Option.some.inj h
  exact r_return dX10_noteWakings_152 rfl hQ (Nat.le_refl _) (Nat.le_refl _)
theorem tX10_weighHour_b98 {l : Launch} {G : gg} {Γ : ly} {d : Nat} {Q : Option Value → ly → mm → Prop} (hdd : 3 ≤ d) (σ : mm) (x0 : Nat) (x1 : Int32) (x2 : Int32) (x3 : Int32) (x4 : Int32)  (t0 : tyOK Γ (0, 10) x0)  (r : ((Int32 × mm) ⊕ mm)) (h : fX10_weighHour_b98 Γ.2 σ x0 x1 x2 x3 x4 = some r) (hb : ∀ (x3 : Int32) (σ9 : mm), r = .inl (x3, σ9) → WP l G yX10_weighHour cX10_weighHour 5 (none) d 0 0 Q 0 0 43 [(0, .ref (G.2.1 x0)), (1, .int x1), (2, .int x2), (3, .int x3)] [] Γ σ9) (hx0 : ∀ (σ9 : mm), r = .inr σ9 → WP l G yX10_weighHour cX10_weighHour 5 (none) d 0 0 Q 0 0 117 [] [] Γ σ9) : WP l G yX10_weighHour cX10_weighHour 5 (none) d 0 0 Q 0 0 98 [(0, .ref (G.2.1 x0)), (1, .int x1), (2, .int x2), (3, .int x3), (4, .int x4)] [] Γ σ := by
  unfold fX10_weighHour_b98 at h
  refine r_aload_n 0 dX10_weighHour_98 rfl ?_
  refine q_getR (e9 := (1, 0)) dX10_weighHour_99 fd_X10_9 t0 rfl h (fun r1 tr1 h => ?_)
  refine r_iload_n 1 dX10_weighHour_102 rfl ?_
  refine r_bipush (v := 9) dX10_weighHour_103 (by decide) ?_
  refine r_imul dX10_weighHour_105 ?_
  refine r_iload_n 3 dX10_weighHour_106 rfl ?_
  refine r_iadd dX10_weighHour_107 ?_
  refine r_iload 4 dX10_weighHour_108 rfl ?_
  refine q_iast dX10_weighHour_110 tr1 h (fun τ2 h => ?_)
  refine q_iinc (v := 1) 3 (fun v3 => [(3, .int v3), (0, .ref (G.2.1 x0)), (1, .int x1), (2, .int x2), (4, .int x4)]) dX10_weighHour_111 rfl (by decide) (by decide) (fun _ => rfl) h (fun v3 h => ?_)
  refine r_goto 43 dX10_weighHour_114 (by decide) ?_
  obtain rfl := Option.some.inj h
  refine r_pick [1, 2, 3, 0] rfl ?_
  exact hb _ _ rfl
theorem sX10_weighHour_L43 {l : Launch} {G : gg} {Γ : ly} {d : Nat} {Q : Option Value → ly → mm → Prop} (hdd : 3 ≤ d) (x0 : Nat) (x1 : Int32) (x2 : Int32) (t0 : tyOK Γ (0, 10) x0) {K : mm → Prop} (kx0 : ∀ (σ9 : mm), K σ9 → WP l G yX10_weighHour cX10_weighHour 5 (none) d 0 0 Q 0 0 117 [] [] Γ σ9) : ∀ (N : Nat) (s : (Int32 × mm)) (b : mm), loopN (fX10_weighHour_L43 Γ.2 x0 x1 x2) N s = some b → K b → WP l G yX10_weighHour cX10_weighHour 5 (none) d 0 0 Q 0 0 43 [(0, .ref (G.2.1 x0)), (1, .int x1), (2, .int x2), (3, .int s.1)] [] Γ s.2 := by
  refine r_loop (f := fX10_weighHour_L43 Γ.2 x0 x1 x2) (hlv := fun s => [(0, .ref (G.2.1 x0)), (1, .int x1), (2, .int x2), (3, .int s.1)]) (hsg := fun s => s.2) ?_
  rintro ⟨x3, σ⟩ r h hb hx
  have hb : ∀ (x3 : Int32) (σ : mm), r = .inl (x3, σ) → WP l G yX10_weighHour cX10_weighHour 5 (none) d 0 0 Q 0 0 43 [(0, .ref (G.2.1 x0)), (1, .int x1), (2, .int x2), (3, .int x3)] [] Γ σ := fun x3 σ e => hb (x3, σ) e
  have hx0 : ∀ (σ9 : mm), r = .inr σ9 → WP l G yX10_weighHour cX10_weighHour 5 (none) d 0 0 Q 0 0 117 [] [] Γ σ9 := fun σ9 e => kx0 σ9 (hx _ e)
  unfold fX10_weighHour_L43 at h
  have h := un2_some h
  show WP l G yX10_weighHour cX10_weighHour 5 (none) d 0 0 Q 0 0 43 [(0, .ref (G.2.1 x0)), (1, .int x1), (2, .int x2), (3, .int x3)] [] Γ σ
  refine r_iload_n 3 dX10_weighHour_43 rfl ?_
  refine r_aload_n 0 dX10_weighHour_44 rfl ?_
  refine q_getR (e9 := (0, 1)) dX10_weighHour_45 fd_X10_21 t0 rfl h (fun r1 tr1 h => ?_)
  obtain ⟨v2, ev2, h⟩ := bd0_some h
  refine q_cVI [] dX10_weighHour_48 cv_X10_64 (ci := 1) rfl rfl tr1 rfl rfl (Nat.le_of_ble_eq_true rfl) (by omega) (kX1_grace (d - 1) (by omega) r1 tr1 v2 ev2) ?_
  refine r_icmp_ge 117 dX10_weighHour_51 (by decide) h (fun _ h => ?_) (fun _ h => ?_)
  · obtain rfl := Option.some.inj h
    refine r_pick [] rfl ?_
    exact hx0 _ rfl
  · refine r_aload_n 0 dX10_weighHour_54 rfl ?_
    refine r_aload_n 0 dX10_weighHour_55 rfl ?_
    refine q_getR (e9 := (1, 0)) dX10_weighHour_56 fd_X10_15 t0 rfl h (fun r3 tr3 h => ?_)
    refine r_iload_n 1 dX10_weighHour_59 rfl ?_
    refine q_iald dX10_weighHour_60 tr3 h (fun v4 h => ?_)
    refine r_iconst (v := 0) dX10_weighHour_61 (by decide) ?_
    obtain ⟨v5, ev5, h⟩ := bd0_some h
    refine q_cVI [.int v4, .int (0 : Int32)] dX10_weighHour_62 cv_X10_57 (ci := 10) rfl rfl t0 rfl rfl (Nat.le_of_ble_eq_true rfl) (by omega) (kX10_fewestFrom (d - 1) (by omega) x0 v4 (0 : Int32) t0 v5 ev5) ?_
    refine r_istore (lv' := [(4, .int v5), (0, .ref (G.2.1 x0)), (1, .int x1), (2, .int x2), (3, .int x3)]) dX10_weighHour_65 (by decide) rfl ?_
    refine r_aload_n 1 dX10_weighHour_67 rfl ?_
    refine q_getR (e9 := (0, 1)) dX10_weighHour_68 fd_X10_21 t0 rfl h (fun r6 tr6 h => ?_)
    refine r_iload_n 3 dX10_weighHour_71 rfl ?_
    obtain ⟨v7, ev7, h⟩ := bd0_some h
    refine q_cVI [.int x2] dX10_weighHour_72 cv_X10_73 (ci := 1) rfl rfl tr6 rfl rfl (Nat.le_of_ble_eq_true rfl) (by omega) (kX1_isSomeoneWilling (d - 1) (by omega) r6 x2 tr6 v7 ev7) ?_
    refine r_if_ne 98 dX10_weighHour_75 (by decide) h (fun _ h => ?_) (fun _ h => ?_)
    · refine r_pick [1, 2, 3, 4, 0] rfl ?_
      exact tX10_weighHour_b98 hdd σ x0 x1 x2 x3 v5 t0 _ h hb hx0
    · refine r_aload_n 1 dX10_weighHour_78 rfl ?_
      refine r_iload_n 2 dX10_weighHour_79 rfl ?_
      obtain ⟨v8, ev8, h⟩ := bd0_some h
      refine q_cVI [.int x1] dX10_weighHour_80 cv_X10_77 (ci := 10) rfl rfl t0 rfl rfl (Nat.le_of_ble_eq_true rfl) (by omega) (kX10_costOfWaking (d - 1) (by omega) x0 x1 t0 v8 ev8) ?_
      refine r_aload_n 1 dX10_weighHour_83 rfl ?_
      refine r_iload_n 2 dX10_weighHour_84 rfl ?_
      refine r_iconst (v := 1) dX10_weighHour_85 (by decide) ?_
      refine r_iadd dX10_weighHour_86 ?_
      refine r_iload_n 4 dX10_weighHour_87 rfl ?_
      refine r_iconst (v := 1) dX10_weighHour_88 (by decide) ?_
      refine r_iadd dX10_weighHour_89 ?_
      obtain ⟨v9, ev9, h⟩ := bd0_some h
      refine q_cVI [.int (x1 + (1 : Int32)), .int (x3 + (1 : Int32))] dX10_weighHour_90 cv_X10_57 (ci := 10) rfl rfl t0 rfl rfl (Nat.le_of_ble_eq_true rfl) (by omega) (kX10_fewestFrom (d - 1) (by omega) x0 (x1 + (1 : Int32)) (x3 + (1 : Int32)) t0 v9 ev9) ?_
      refine r_min dX10_weighHour_93 mx_X10_29 (Nat.le_of_ble_eq_true rfl) (by omega) (Nat.le_refl _) (Nat.le_refl _) ?_
      refine q_nmI h (fun v10 h => ?_)
      refine r_istore (lv' := [(4, .int v10), (0, .ref (G.2.1 x0)), (1, .int x1), (2, .int x2), (3, .int x3)]) dX10_weighHour_96 (by decide) rfl ?_
      refine r_pick [1, 2, 3, 4, 0] rfl ?_
      exact tX10_weighHour_b98 hdd σ x0 x1 x2 x3 v10 t0 _ h hb hx0
theorem kX10_weighHour {l : Launch} {G : gg} {Γ : ly} {σ : mm} (d : Nat) (hdd : 3 ≤ d) (x0 : Nat) (x1 : Int32) (t0 : tyOK Γ (0, 10) x0) (r : mm) (h : fX10_weighHour Γ.2 σ x0 x1 = some r) : CT l G yX10_weighHour cX10_weighHour 5 (none) d 0 0 [.ref (G.2.1 x0), .int x1] Γ σ (PP none Γ r) := by
  refine CT.ofWP (by decide) (Nat.le_of_ble_eq_true rfl) ?_
  have hQ : PP none Γ r none Γ r := PP.self
  generalize PP none Γ r = Q at hQ ⊢
  show WP l G yX10_weighHour cX10_weighHour 5 (none) d 0 0 Q 0 0 0 [(0, .ref (G.2.1 x0)), (1, .int x1)] [] Γ σ
  unfold fX10_weighHour at h
  refine r_aload_n 0 dX10_weighHour_0 rfl ?_
  refine q_getR (e9 := (0, 1)) dX10_weighHour_1 fd_X10_21 t0 rfl h (fun r1 tr1 h => ?_)
  obtain ⟨v2, ev2, h⟩ := bd0_some h
  refine q_cVI [] dX10_weighHour_4 cv_X10_51 (ci := 1) rfl rfl tr1 rfl rfl (Nat.le_of_ble_eq_true rfl) (by omega) (kX1_start (d - 1) (by omega) r1 tr1 v2 ev2) ?_
  refine r_iload_n 1 dX10_weighHour_7 rfl ?_
  refine r_iadd dX10_weighHour_8 ?_
  refine q_nmI h (fun v3 h => ?_)
  refine r_istore_n (lv' := [(2, .int v3), (0, .ref (G.2.1 x0)), (1, .int x1)]) dX10_weighHour_9 (by decide) rfl ?_
  refine r_aload_n 1 dX10_weighHour_10 rfl ?_
  refine q_getR (e9 := (1, 0)) dX10_weighHour_11 fd_X10_15 t0 rfl h (fun r4 tr4 h => ?_)
  refine r_iload_n 2 dX10_weighHour_14 rfl ?_
  refine r_aload_n 1 dX10_weighHour_15 rfl ?_
  refine q_getR (e9 := (0, 1)) dX10_weighHour_16 fd_X10_21 t0 rfl h (fun r5 tr5 h => ?_)
  refine r_iload_n 0 dX10_weighHour_19 rfl ?_
  refine r_iconst (v := 1) dX10_weighHour_20 (by decide) ?_
  refine r_iadd dX10_weighHour_21 ?_
  refine r_aload_n 1 dX10_weighHour_22 rfl ?_
  refine q_getR (e9 := (0, 1)) dX10_weighHour_23 fd_X10_21 t0 rfl h (fun r6 tr6 h => ?_)
  obtain ⟨v7, ev7, h⟩ := bd0_some h
  refine q_cVI [] dX10_weighHour_26 cv_X10_67 (ci := 1) rfl rfl tr6 rfl rfl (Nat.le_of_ble_eq_true rfl) (by omega) (kX1_grains (d - 1) (by omega) r6 tr6 v7 ev7) ?_
  obtain ⟨v8, ev8, h⟩ := bd0_some h
  refine q_cVI [.int (v3 + (1 : Int32)), .int v7] dX10_weighHour_29 cv_X10_70 (ci := 1) rfl rfl tr5 rfl rfl (Nat.le_of_ble_eq_true rfl) (by omega) (kX1_endFrom (d - 1) (by omega) r5 (v3 + (1 : Int32)) v7 tr5 v8 ev8) ?_
  refine r_aload_n 1 dX10_weighHour_32 rfl ?_
  refine q_getR (e9 := (0, 1)) dX10_weighHour_33 fd_X10_21 t0 rfl h (fun r9 tr9 h => ?_)
  obtain ⟨v10, ev10, h⟩ := bd0_some h
  refine q_cVI [] dX10_weighHour_36 cv_X10_51 (ci := 1) rfl rfl tr9 rfl rfl (Nat.le_of_ble_eq_true rfl) (by omega) (kX1_start (d - 1) (by omega) r9 tr9 v10 ev10) ?_
  refine r_isub dX10_weighHour_39 ?_
  refine q_iast dX10_weighHour_40 tr4 h (fun τ11 h => ?_)
  refine r_iconst (v := 0) dX10_weighHour_41 (by decide) ?_
  refine r_istore_n (lv' := [(3, .int (0 : Int32)), (2, .int v3), (0, .ref (G.2.1 x0)), (1, .int x1)]) dX10_weighHour_42 (by decide) rfl ?_
  obtain ⟨b12, eb12, h⟩ := bd0_some h
  refine r_pick [2, 3, 1, 0] rfl ?_
  refine sX10_weighHour_L43 hdd x0 x1 v3 t0 (K := fun b => b = b12) ?_ 1000 ((0 : Int32), τ11) b12 eb12 rfl
  rintro τ13 rfl
  obtain rfl := Option.some.inj h
  exact r_return dX10_weighHour_117 rfl hQ (Nat.le_refl _) (Nat.le_refl _)
theorem sX10_keepFor_L21 {l : Launch} {G : gg} {Γ : ly} {d : Nat} {Q : Option Value → ly → mm → Prop} (hdd : 4 ≤ d) (x0 : Nat) (t0 : tyOK Γ (0, 10) x0) {K : mm → Prop} (kx0 : ∀ (σ9 : mm), K σ9 → WP l G yX10_keepFor cX10_keepFor 3 (some .int) d 0 0 Q 0 0 36 [(0, .ref (G.2.1 x0))] [] Γ σ9) : ∀ (N : Nat) (s : (Int32 × mm)) (b : mm), loopN (fX10_keepFor_L21 Γ.2 x0) N s = some b → K b → WP l G yX10_keepFor cX10_keepFor 3 (some .int) d 0 0 Q 0 0 21 [(0, .ref (G.2.1 x0)), (2, .int s.1)] [] Γ s.2 := by
  refine r_loop (f := fX10_keepFor_L21 Γ.2 x0) (hlv := fun s => [(0, .ref (G.2.1 x0)), (2, .int s.1)]) (hsg := fun s => s.2) ?_
  rintro ⟨x2, σ⟩ r h hb hx
  have hb : ∀ (x2 : Int32) (σ : mm), r = .inl (x2, σ) → WP l G yX10_keepFor cX10_keepFor 3 (some .int) d 0 0 Q 0 0 21 [(0, .ref (G.2.1 x0)), (2, .int x2)] [] Γ σ := fun x2 σ e => hb (x2, σ) e
  have hx0 : ∀ (σ9 : mm), r = .inr σ9 → WP l G yX10_keepFor cX10_keepFor 3 (some .int) d 0 0 Q 0 0 36 [(0, .ref (G.2.1 x0))] [] Γ σ9 := fun σ9 e => kx0 σ9 (hx _ e)
  unfold fX10_keepFor_L21 at h
  have h := un2_some h
  show WP l G yX10_keepFor cX10_keepFor 3 (some .int) d 0 0 Q 0 0 21 [(0, .ref (G.2.1 x0)), (2, .int x2)] [] Γ σ
  refine r_iload_n 1 dX10_keepFor_21 rfl ?_
  refine r_if_lt 36 dX10_keepFor_22 (by decide) h (fun _ h => ?_) (fun _ h => ?_)
  · obtain rfl := Option.some.inj h
    refine r_pick [0] rfl ?_
    exact hx0 _ rfl
  · refine r_aload_n 0 dX10_keepFor_25 rfl ?_
    refine r_iload_n 1 dX10_keepFor_26 rfl ?_
    obtain ⟨τ1, eτ1, h⟩ := bd0_some h
    refine q_cVV [.int x2] dX10_keepFor_27 cv_X10_41 (ci := 10) rfl rfl t0 rfl rfl (Nat.le_of_ble_eq_true rfl) (by omega) (kX10_weighHour (d - 1) (by omega) x0 x2 t0 τ1 eτ1) ?_
    refine q_iinc (v := -1) 1 (fun v2 => [(2, .int v2), (0, .ref (G.2.1 x0))]) dX10_keepFor_30 rfl (by decide) (by decide) (fun _ => rfl) h (fun v2 h => ?_)
    refine r_goto 21 dX10_keepFor_33 (by decide) ?_
    obtain rfl := Option.some.inj h
    refine r_pick [1, 0] rfl ?_
    exact hb _ _ rfl
theorem kX10_keepFor {l : Launch} {G : gg} {Γ : ly} {σ : mm} (d : Nat) (hdd : 4 ≤ d) (x0 : Nat) (x1 : Int32) (t0 : tyOK Γ (0, 10) x0) (r : (Int32 × mm)) (h : fX10_keepFor Γ.2 σ x0 x1 = some r) : CT l G yX10_keepFor cX10_keepFor 3 (some .int) d 0 0 [.ref (G.2.1 x0), .int x1] Γ σ (PP (some (.int r.1)) Γ r.2) := by
  refine CT.ofWP (by decide) (Nat.le_of_ble_eq_true rfl) ?_
  have hQ : PP (some (.int r.1)) Γ r.2 (some (.int r.1)) Γ r.2 := PP.self
  generalize PP (some (.int r.1)) Γ r.2 = Q at hQ ⊢
  show WP l G yX10_keepFor cX10_keepFor 3 (some .int) d 0 0 Q 0 0 0 [(0, .ref (G.2.1 x0)), (1, .int x1)] [] Γ σ
  unfold fX10_keepFor at h
  refine r_aload_n 0 dX10_keepFor_0 rfl ?_
  refine r_iconst (v := 0) dX10_keepFor_1 (by decide) ?_
  refine r_iload_n 1 dX10_keepFor_2 rfl ?_
  refine r_bipush (v := 60) dX10_keepFor_3 (by decide) ?_
  refine r_min dX10_keepFor_5 mx_X10_29 (Nat.le_of_ble_eq_true rfl) (by omega) (Nat.le_refl _) (Nat.le_refl _) ?_
  refine r_max dX10_keepFor_8 mx_X10_35 (Nat.le_of_ble_eq_true rfl) (by omega) (Nat.le_refl _) (Nat.le_refl _) ?_
  refine q_putI dX10_keepFor_11 fd_X10_38 t0 h (fun τ1 h => ?_)
  refine r_aload_n 0 dX10_keepFor_14 rfl ?_
  refine r_getI dX10_keepFor_15 fd_X10_38 t0 ?_
  refine r_iconst (v := 1) dX10_keepFor_18 (by decide) ?_
  refine r_isub dX10_keepFor_19 ?_
  refine q_nmI h (fun v2 h => ?_)
  refine r_istore_n (lv' := [(2, .int v2), (0, .ref (G.2.1 x0)), (1, .int x1)]) dX10_keepFor_20 (by decide) rfl ?_
  obtain ⟨b3, eb3, h⟩ := bd0_some h
  refine r_pick [1, 0] rfl ?_
  refine sX10_keepFor_L21 hdd x0 t0 (K := fun b => b = b3) ?_ 1000 (v2, τ1) b3 eb3 rfl
  rintro τ4 rfl
  refine r_aload_n 0 dX10_keepFor_36 rfl ?_
  refine q_getR (e9 := (0, 1)) dX10_keepFor_37 fd_X10_21 t0 rfl h (fun r5 tr5 h => ?_)
  obtain ⟨v6, ev6, h⟩ := bd0_some h
  refine q_cVI [] dX10_keepFor_40 cv_X10_45 (ci := 1) rfl rfl tr5 rfl rfl (Nat.le_of_ble_eq_true rfl) (by omega) (kX1_endNow (d - 1) (by omega) r5 tr5 v6 ev6) ?_
  refine r_aload_n 0 dX10_keepFor_43 rfl ?_
  refine q_getR (e9 := (0, 1)) dX10_keepFor_44 fd_X10_21 t0 rfl h (fun r7 tr7 h => ?_)
  obtain ⟨v8, ev8, h⟩ := bd0_some h
  refine q_cVI [] dX10_keepFor_47 cv_X10_51 (ci := 1) rfl rfl tr7 rfl rfl (Nat.le_of_ble_eq_true rfl) (by omega) (kX1_start (d - 1) (by omega) r7 tr7 v8 ev8) ?_
  refine r_isub dX10_keepFor_50 ?_
  refine q_nmI h (fun v9 h => ?_)
  refine r_istore_n (lv' := [(2, .int v9), (0, .ref (G.2.1 x0))]) dX10_keepFor_51 (by decide) rfl ?_
  refine r_aload_n 1 dX10_keepFor_52 rfl ?_
  refine r_iload_n 0 dX10_keepFor_53 rfl ?_
  refine r_aload_n 1 dX10_keepFor_54 rfl ?_
  refine q_getR (e9 := (0, 1)) dX10_keepFor_55 fd_X10_21 t0 rfl h (fun r10 tr10 h => ?_)
  obtain ⟨v11, ev11, h⟩ := bd0_some h
  refine q_cVI [] dX10_keepFor_58 cv_X10_54 (ci := 1) rfl rfl tr10 rfl rfl (Nat.le_of_ble_eq_true rfl) (by omega) (kX1_waited (d - 1) (by omega) r10 tr10 v11 ev11) ?_
  obtain ⟨v12, ev12, h⟩ := bd0_some h
  refine q_cVI [.int v9, .int v11] dX10_keepFor_61 cv_X10_57 (ci := 10) rfl rfl t0 rfl rfl (Nat.le_of_ble_eq_true rfl) (by omega) (kX10_fewestFrom (d - 1) (by omega) x0 v9 v11 t0 v12 ev12) ?_
  refine r_sipush (v := 1000) dX10_keepFor_64 (by decide) ?_
  refine r_icmp_lt 72 dX10_keepFor_67 (by decide) h (fun _ h => ?_) (fun _ h => ?_)
  · refine r_aload_n 1 dX10_keepFor_72 rfl ?_
    refine r_iload_n 0 dX10_keepFor_73 rfl ?_
    refine r_aload_n 1 dX10_keepFor_74 rfl ?_
    refine q_getR (e9 := (0, 1)) dX10_keepFor_75 fd_X10_21 t0 rfl h (fun r13 tr13 h => ?_)
    obtain ⟨v14, ev14, h⟩ := bd0_some h
    refine q_cVI [] dX10_keepFor_78 cv_X10_54 (ci := 1) rfl rfl tr13 rfl rfl (Nat.le_of_ble_eq_true rfl) (by omega) (kX1_waited (d - 1) (by omega) r13 tr13 v14 ev14) ?_
    obtain ⟨τ15, eτ15, h⟩ := bd0_some h
    refine q_cVV [.int v9, .int v14] dX10_keepFor_81 cv_X10_60 (ci := 10) rfl rfl t0 rfl rfl (Nat.le_of_ble_eq_true rfl) (by omega) (kX10_noteWakings (d - 1) (by omega) x0 v9 v14 t0 τ15 eτ15) ?_
    refine r_aload_n 1 dX10_keepFor_84 rfl ?_
    refine r_getI dX10_keepFor_85 fd_X10_25 t0 ?_
    obtain rfl := Option.some.inj h
    exact r_ireturn dX10_keepFor_88 rfl hQ (Nat.le_refl _) (Nat.le_refl _)
  · refine r_iconst (v := -1) dX10_keepFor_70 (by decide) ?_
    obtain rfl := Option.some.inj h
    exact r_ireturn dX10_keepFor_71 rfl hQ (Nat.le_refl _) (Nat.le_refl _)
theorem kX12_feed {l : Launch} {G : gg} {Γ : ly} {σ : mm} (d : Nat) (hdd : 1 ≤ d) (x0 : Nat) (x1 : Int32) (x2 : Int32) (x3 : Int32) (x4 : Int32) (x5 : Int32) (t0 : tyOK Γ (0, 11) x0) (r : (Int32 × mm)) (h : fX12_feed Γ.2 σ x0 x1 x2 x3 x4 x5 = some r) : CT l G yX12_feed cX12_feed 6 (some .int) d 0 0 [.ref (G.2.1 x0), .int x1, .int x2, .int x3, .int x4, .int x5] Γ σ (PP (some (.int r.1)) Γ r.2) := by
  refine CT.ofWP (by decide) (Nat.le_of_ble_eq_true rfl) ?_
  have hQ : PP (some (.int r.1)) Γ r.2 (some (.int r.1)) Γ r.2 := PP.self
  generalize PP (some (.int r.1)) Γ r.2 = Q at hQ ⊢
  show WP l G yX12_feed cX12_feed 6 (some .int) d 0 0 Q 0 0 0 [(0, .ref (G.2.1 x0)), (1, .int x1), (2, .int x2), (3, .int x3), (4, .int x4), (5, .int x5)] [] Γ σ
  unfold fX12_feed at h
  refine r_aload_n 0 dX12_feed_0 rfl ?_
  refine q_getR (e9 := (0, 8)) dX12_feed_1 fd_X12_10 t0 rfl h (fun r1 tr1 h => ?_)
  obtain ⟨v2, ev2, h⟩ := bd0_some h
  refine q_cVI [] dX12_feed_4 cv_X12_112 (ci := 8) rfl rfl tr1 rfl rfl (Nat.le_of_ble_eq_true rfl) (by omega) (kX8_hasRoom (d - 1) (by omega) r1 tr1 v2 ev2) ?_
  refine r_if_ne 12 dX12_feed_7 (by decide) h (fun _ h => ?_) (fun _ h => ?_)
  · refine r_aload_n 0 dX12_feed_12 rfl ?_
    refine q_getR (e9 := (0, 8)) dX12_feed_13 fd_X12_10 t0 rfl h (fun r3 tr3 h => ?_)
    refine r_iload_n 1 dX12_feed_16 rfl ?_
    obtain ⟨τ4, eτ4, h⟩ := bd0_some h
    refine q_cVV [.int x1] dX12_feed_17 cv_X12_116 (ci := 8) rfl rfl tr3 rfl rfl (Nat.le_of_ble_eq_true rfl) (by omega) (kX8_append (d - 1) (by omega) r3 x1 tr3 τ4 eτ4) ?_
    refine r_aload_n 0 dX12_feed_20 rfl ?_
    refine q_getR (e9 := (0, 8)) dX12_feed_21 fd_X12_10 t0 rfl h (fun r5 tr5 h => ?_)
    refine r_iload_n 2 dX12_feed_24 rfl ?_
    obtain ⟨τ6, eτ6, h⟩ := bd0_some h
    refine q_cVV [.int x2] dX12_feed_25 cv_X12_116 (ci := 8) rfl rfl tr5 rfl rfl (Nat.le_of_ble_eq_true rfl) (by omega) (kX8_append (d - 1) (by omega) r5 x2 tr5 τ6 eτ6) ?_
    refine r_aload_n 0 dX12_feed_28 rfl ?_
    refine q_getR (e9 := (0, 8)) dX12_feed_29 fd_X12_10 t0 rfl h (fun r7 tr7 h => ?_)
    refine r_iload_n 3 dX12_feed_32 rfl ?_
    obtain ⟨τ8, eτ8, h⟩ := bd0_some h
    refine q_cVV [.int x3] dX12_feed_33 cv_X12_116 (ci := 8) rfl rfl tr7 rfl rfl (Nat.le_of_ble_eq_true rfl) (by omega) (kX8_append (d - 1) (by omega) r7 x3 tr7 τ8 eτ8) ?_
    refine r_aload_n 0 dX12_feed_36 rfl ?_
    refine q_getR (e9 := (0, 8)) dX12_feed_37 fd_X12_10 t0 rfl h (fun r9 tr9 h => ?_)
    refine r_iload 4 dX12_feed_40 rfl ?_
    obtain ⟨τ10, eτ10, h⟩ := bd0_some h
    refine q_cVV [.int x4] dX12_feed_42 cv_X12_116 (ci := 8) rfl rfl tr9 rfl rfl (Nat.le_of_ble_eq_true rfl) (by omega) (kX8_append (d - 1) (by omega) r9 x4 tr9 τ10 eτ10) ?_
    refine r_aload_n 0 dX12_feed_45 rfl ?_
    refine q_getR (e9 := (0, 8)) dX12_feed_46 fd_X12_10 t0 rfl h (fun r11 tr11 h => ?_)
    refine r_iload 5 dX12_feed_49 rfl ?_
    obtain ⟨τ12, eτ12, h⟩ := bd0_some h
    refine q_cVV [.int x5] dX12_feed_51 cv_X12_116 (ci := 8) rfl rfl tr11 rfl rfl (Nat.le_of_ble_eq_true rfl) (by omega) (kX8_append (d - 1) (by omega) r11 x5 tr11 τ12 eτ12) ?_
    refine r_aload_n 0 dX12_feed_54 rfl ?_
    refine q_getR (e9 := (0, 8)) dX12_feed_55 fd_X12_10 t0 rfl h (fun r13 tr13 h => ?_)
    refine r_getI dX12_feed_58 fd_X12_120 tr13 ?_
    obtain rfl := Option.some.inj h
    exact r_ireturn dX12_feed_61 rfl hQ (Nat.le_refl _) (Nat.le_refl _)
  · refine r_iconst (v := -1) dX12_feed_10 (by decide) ?_
    obtain rfl := Option.some.inj h
    exact r_ireturn dX12_feed_11 rfl hQ (Nat.le_refl _) (Nat.le_refl _)
theorem tX12_end_b15 {l : Launch} {G : gg} {Γ : ly} {d : Nat} {Q : Option Value → ly → mm → Prop} (hdd : 0 ≤ d) (σ : mm)     (r : (Int32 × mm)) (h : fX12_end_b15 Γ.2 σ  = some r) (hQ : Q (some (.int r.1)) Γ r.2) : WP l G yX12_end cX12_end 2 (some .boolean) d 0 0 Q 0 0 15 [] [] Γ σ := by
  unfold fX12_end_b15 at h
  refine r_iconst (v := 0) dX12_end_15 (by decide) ?_
  obtain rfl := Option.some.inj h
  exact r_zreturn dX12_end_16 rfl (by decide) hQ (Nat.le_refl _) (Nat.le_refl _)
theorem kX12_end {l : Launch} {G : gg} {Γ : ly} {σ : mm} (d : Nat) (hdd : 0 ≤ d) (x0 : Nat) (x1 : Int32) (t0 : tyOK Γ (0, 11) x0) (r : (Int32 × mm)) (h : fX12_end Γ.2 σ x0 x1 = some r) : CT l G yX12_end cX12_end 2 (some .boolean) d 0 0 [.ref (G.2.1 x0), .int x1] Γ σ (PP (some (.int r.1)) Γ r.2) := by
  refine CT.ofWP (by decide) (Nat.le_of_ble_eq_true rfl) ?_
  have hQ : PP (some (.int r.1)) Γ r.2 (some (.int r.1)) Γ r.2 := PP.self
  generalize PP (some (.int r.1)) Γ r.2 = Q at hQ ⊢
  show WP l G yX12_end cX12_end 2 (some .boolean) d 0 0 Q 0 0 0 [(0, .ref (G.2.1 x0)), (1, .int x1)] [] Γ σ
  unfold fX12_end at h
  refine r_iload_n 1 dX12_end_0 rfl ?_
  refine r_if_lt 15 dX12_end_1 (by decide) h (fun _ h => ?_) (fun _ h => ?_)
  · refine r_pick [] rfl ?_
    exact tX12_end_b15 hdd σ  _ h hQ
  · refine r_iload_n 1 dX12_end_4 rfl ?_
    refine r_aload_n 0 dX12_end_5 rfl ?_
    refine q_getR (e9 := (0, 8)) dX12_end_6 fd_X12_10 t0 rfl h (fun r1 tr1 h => ?_)
    refine r_getI dX12_end_9 fd_X12_120 tr1 ?_
    refine r_icmp_le 17 dX12_end_12 (by decide) h (fun _ h => ?_) (fun _ h => ?_)
    · refine r_aload_n 0 dX12_end_17 rfl ?_
      refine q_getR (e9 := (0, 8)) dX12_end_18 fd_X12_10 t0 rfl h (fun r2 tr2 h => ?_)
      refine r_iload_n 1 dX12_end_21 rfl ?_
      refine q_putI dX12_end_22 fd_X12_120 tr2 h (fun τ3 h => ?_)
      refine r_iconst (v := 1) dX12_end_25 (by decide) ?_
      obtain rfl := Option.some.inj h
      exact r_zreturn dX12_end_26 rfl (by decide) hQ (Nat.le_refl _) (Nat.le_refl _)
    · refine r_pick [] rfl ?_
      exact tX12_end_b15 hdd σ  _ h hQ
