/-! the walks, 0 -/
theorem kX13_thrown {l : Launch} {G : gg} {Γ : ly} {σ : mm} (d : Nat) (hdd : 0 ≤ d) (x0 : Nat) (t0 : tyOK Γ (0, 12) x0) (r : Int32) (h : fX13_thrown Γ.2 σ x0 = some r) : CT l G yX13_thrown cX13_thrown 1 (some .int) d 0 0 [.ref (G.2.1 x0)] Γ σ (PP (some (.int r)) Γ σ) := by
  refine CT.ofWP (by decide) (Nat.le_of_ble_eq_true rfl) ?_
  have hQ : PP (some (.int r)) Γ σ (some (.int r)) Γ σ := PP.self
  generalize PP (some (.int r)) Γ σ = Q at hQ ⊢
  show WP l G yX13_thrown cX13_thrown 1 (some .int) d 0 0 Q 0 0 0 [(0, .ref (G.2.1 x0))] [] Γ σ
  unfold fX13_thrown at h
  refine r_aload_n 0 dX13_thrown_0 rfl ?_
  refine r_getI dX13_thrown_1 fd_X13_1 t0 ?_
  obtain rfl := Option.some.inj h
  exact r_ireturn dX13_thrown_4 rfl hQ (Nat.le_refl _) (Nat.le_refl _)
theorem kX13_refuse {l : Launch} {G : gg} {Γ : ly} {σ : mm} (d : Nat) (hdd : 0 ≤ d) (x0 : Nat) (t0 : tyOK Γ (0, 12) x0) (r : (Int32 × mm)) (h : fX13_refuse Γ.2 σ x0 = some r) : CT l G yX13_refuse cX13_refuse 1 (some .int) d 0 0 [.ref (G.2.1 x0)] Γ σ (PP (some (.int r.1)) Γ r.2) := by
  refine CT.ofWP (by decide) (Nat.le_of_ble_eq_true rfl) ?_
  have hQ : PP (some (.int r.1)) Γ r.2 (some (.int r.1)) Γ r.2 := PP.self
  generalize PP (some (.int r.1)) Γ r.2 = Q at hQ ⊢
  show WP l G yX13_refuse cX13_refuse 1 (some .int) d 0 0 Q 0 0 0 [(0, .ref (G.2.1 x0))] [] Γ σ
  unfold fX13_refuse at h
  refine r_aload_n 0 dX13_refuse_0 rfl ?_
  refine r_iconst (v := 1) dX13_refuse_1 (by decide) ?_
  refine q_putI dX13_refuse_2 fd_X13_1 t0 h (fun τ1 h => ?_)
  refine r_iconst (v := 0) dX13_refuse_5 (by decide) ?_
  obtain rfl := Option.some.inj h
  exact r_ireturn dX13_refuse_6 rfl hQ (Nat.le_refl _) (Nat.le_refl _)
theorem sX13_come_L3 {l : Launch} {G : gg} {Γ : ly} {d : Nat} {Q : Option Value → ly → mm → Prop} (hdd : 0 ≤ d) (x0 : Nat) (x1 : Int32) (t0 : tyOK Γ (0, 12) x0) {K : mm → Prop} (kx0 : ∀ (σ9 : mm), K σ9 → WP l G yX13_come cX13_come 3 (none) d 0 0 Q 0 0 39 [] [] Γ σ9) : ∀ (N : Nat) (s : (Int32 × mm)) (b : mm), loopN (fX13_come_L3 Γ.2 x0 x1) N s = some b → K b → WP l G yX13_come cX13_come 3 (none) d 0 0 Q 0 0 3 [(0, .ref (G.2.1 x0)), (1, .int x1), (2, .int s.1)] [] Γ s.2 := by
  refine r_loop (f := fX13_come_L3 Γ.2 x0 x1) (hlv := fun s => [(0, .ref (G.2.1 x0)), (1, .int x1), (2, .int s.1)]) (hsg := fun s => s.2) ?_
  rintro ⟨x2, σ⟩ r h hb hx
  have hb : ∀ (x2 : Int32) (σ : mm), r = .inl (x2, σ) → WP l G yX13_come cX13_come 3 (none) d 0 0 Q 0 0 3 [(0, .ref (G.2.1 x0)), (1, .int x1), (2, .int x2)] [] Γ σ := fun x2 σ e => hb (x2, σ) e
  have hx0 : ∀ (σ9 : mm), r = .inr σ9 → WP l G yX13_come cX13_come 3 (none) d 0 0 Q 0 0 39 [] [] Γ σ9 := fun σ9 e => kx0 σ9 (hx _ e)
  unfold fX13_come_L3 at h
  have h := un2_some h
  show WP l G yX13_come cX13_come 3 (none) d 0 0 Q 0 0 3 [(0, .ref (G.2.1 x0)), (1, .int x1), (2, .int x2)] [] Γ σ
  refine r_iload_n 2 dX13_come_3 rfl ?_
  refine r_if_lt 39 dX13_come_4 (by decide) h (fun _ h => ?_) (fun _ h => ?_)
  · obtain rfl := Option.some.inj h
    refine r_pick [] rfl ?_
    exact hx0 _ rfl
  · refine r_aload_n 0 dX13_come_7 rfl ?_
    refine q_getR (e9 := (1, 0)) dX13_come_8 fd_X13_7 t0 rfl h (fun r1 tr1 h => ?_)
    refine r_aload_n 0 dX13_come_11 rfl ?_
    refine r_getI dX13_come_12 fd_X13_11 t0 ?_
    refine r_iload_n 1 dX13_come_15 rfl ?_
    refine r_iload_n 2 dX13_come_16 rfl ?_
    refine r_iushr dX13_come_17 ?_
    refine r_sipush (v := 255) dX13_come_18 (by decide) ?_
    refine r_iand dX13_come_21 ?_
    refine q_iast dX13_come_22 tr1 h (fun τ2 h => ?_)
    refine r_aload_n 0 dX13_come_23 rfl ?_
    refine r_dup dX13_come_24 rfl ?_
    refine r_getI dX13_come_25 fd_X13_11 t0 ?_
    refine r_iconst (v := 1) dX13_come_28 (by decide) ?_
    refine r_iadd dX13_come_29 ?_
    refine q_putI dX13_come_30 fd_X13_11 t0 h (fun τ3 h => ?_)
    refine q_iinc (v := -8) 2 (fun v4 => [(2, .int v4), (0, .ref (G.2.1 x0)), (1, .int x1)]) dX13_come_33 rfl (by decide) (by decide) (fun _ => rfl) h (fun v4 h => ?_)
    refine r_goto 3 dX13_come_36 (by decide) ?_
    obtain rfl := Option.some.inj h
    refine r_pick [1, 2, 0] rfl ?_
    exact hb _ _ rfl
theorem kX13_come {l : Launch} {G : gg} {Γ : ly} {σ : mm} (d : Nat) (hdd : 0 ≤ d) (x0 : Nat) (x1 : Int32) (t0 : tyOK Γ (0, 12) x0) (r : mm) (h : fX13_come Γ.2 σ x0 x1 = some r) : CT l G yX13_come cX13_come 3 (none) d 0 0 [.ref (G.2.1 x0), .int x1] Γ σ (PP none Γ r) := by
  refine CT.ofWP (by decide) (Nat.le_of_ble_eq_true rfl) ?_
  have hQ : PP none Γ r none Γ r := PP.self
  generalize PP none Γ r = Q at hQ ⊢
  show WP l G yX13_come cX13_come 3 (none) d 0 0 Q 0 0 0 [(0, .ref (G.2.1 x0)), (1, .int x1)] [] Γ σ
  unfold fX13_come at h
  refine r_bipush (v := 24) dX13_come_0 (by decide) ?_
  refine r_istore_n (lv' := [(2, .int (24 : Int32)), (0, .ref (G.2.1 x0)), (1, .int x1)]) dX13_come_2 (by decide) rfl ?_
  obtain ⟨b1, eb1, h⟩ := bd0_some h
  refine r_pick [1, 2, 0] rfl ?_
  refine sX13_come_L3 hdd x0 x1 t0 (K := fun b => b = b1) ?_ 1000 ((24 : Int32), σ) b1 eb1 rfl
  rintro τ2 rfl
  obtain rfl := Option.some.inj h
  exact r_return dX13_come_39 rfl hQ (Nat.le_refl _) (Nat.le_refl _)
theorem kX13_feed {l : Launch} {G : gg} {Γ : ly} {σ : mm} (d : Nat) (hdd : 1 ≤ d) (x0 : Nat) (x1 : Int32) (x2 : Int32) (x3 : Int32) (x4 : Int32) (x5 : Int32) (t0 : tyOK Γ (0, 12) x0) (r : (Int32 × mm)) (h : fX13_feed Γ.2 σ x0 x1 x2 x3 x4 x5 = some r) : CT l G yX13_feed cX13_feed 6 (some .int) d 0 0 [.ref (G.2.1 x0), .int x1, .int x2, .int x3, .int x4, .int x5] Γ σ (PP (some (.int r.1)) Γ r.2) := by
  refine CT.ofWP (by decide) (Nat.le_of_ble_eq_true rfl) ?_
  have hQ : PP (some (.int r.1)) Γ r.2 (some (.int r.1)) Γ r.2 := PP.self
  generalize PP (some (.int r.1)) Γ r.2 = Q at hQ ⊢
  show WP l G yX13_feed cX13_feed 6 (some .int) d 0 0 Q 0 0 0 [(0, .ref (G.2.1 x0)), (1, .int x1), (2, .int x2), (3, .int x3), (4, .int x4), (5, .int x5)] [] Γ σ
  unfold fX13_feed at h
  refine r_aload_n 0 dX13_feed_0 rfl ?_
  refine r_iconst (v := 0) dX13_feed_1 (by decide) ?_
  refine q_putI dX13_feed_2 fd_X13_1 t0 h (fun τ1 h => ?_)
  refine r_aload_n 0 dX13_feed_5 rfl ?_
  refine r_getI dX13_feed_6 fd_X13_11 t0 ?_
  refine r_bipush (v := 20) dX13_feed_9 (by decide) ?_
  refine r_iadd dX13_feed_11 ?_
  refine r_sipush (v := 940) dX13_feed_12 (by decide) ?_
  refine r_icmp_le 20 dX13_feed_15 (by decide) h (fun _ h => ?_) (fun _ h => ?_)
  · refine r_aload_n 0 dX13_feed_20 rfl ?_
    refine r_iload_n 1 dX13_feed_21 rfl ?_
    obtain ⟨τ2, eτ2, h⟩ := bd0_some h
    refine q_cVV [.int x1] dX13_feed_22 cv_X13_14 (ci := 12) rfl rfl t0 rfl rfl (Nat.le_of_ble_eq_true rfl) (by omega) (kX13_come (d - 1) (by omega) x0 x1 t0 τ2 eτ2) ?_
    refine r_aload_n 0 dX13_feed_25 rfl ?_
    refine r_iload_n 2 dX13_feed_26 rfl ?_
    obtain ⟨τ3, eτ3, h⟩ := bd0_some h
    refine q_cVV [.int x2] dX13_feed_27 cv_X13_14 (ci := 12) rfl rfl t0 rfl rfl (Nat.le_of_ble_eq_true rfl) (by omega) (kX13_come (d - 1) (by omega) x0 x2 t0 τ3 eτ3) ?_
    refine r_aload_n 0 dX13_feed_30 rfl ?_
    refine r_iload_n 3 dX13_feed_31 rfl ?_
    obtain ⟨τ4, eτ4, h⟩ := bd0_some h
    refine q_cVV [.int x3] dX13_feed_32 cv_X13_14 (ci := 12) rfl rfl t0 rfl rfl (Nat.le_of_ble_eq_true rfl) (by omega) (kX13_come (d - 1) (by omega) x0 x3 t0 τ4 eτ4) ?_
    refine r_aload_n 0 dX13_feed_35 rfl ?_
    refine r_iload 4 dX13_feed_36 rfl ?_
    obtain ⟨τ5, eτ5, h⟩ := bd0_some h
    refine q_cVV [.int x4] dX13_feed_38 cv_X13_14 (ci := 12) rfl rfl t0 rfl rfl (Nat.le_of_ble_eq_true rfl) (by omega) (kX13_come (d - 1) (by omega) x0 x4 t0 τ5 eτ5) ?_
    refine r_aload_n 0 dX13_feed_41 rfl ?_
    refine r_iload 5 dX13_feed_42 rfl ?_
    obtain ⟨τ6, eτ6, h⟩ := bd0_some h
    refine q_cVV [.int x5] dX13_feed_44 cv_X13_14 (ci := 12) rfl rfl t0 rfl rfl (Nat.le_of_ble_eq_true rfl) (by omega) (kX13_come (d - 1) (by omega) x0 x5 t0 τ6 eτ6) ?_
    refine r_aload_n 0 dX13_feed_47 rfl ?_
    refine r_getI dX13_feed_48 fd_X13_11 t0 ?_
    obtain rfl := Option.some.inj h
    exact r_ireturn dX13_feed_51 rfl hQ (Nat.le_refl _) (Nat.le_refl _)
  · refine r_iconst (v := -1) dX13_feed_18 (by decide) ?_
    obtain rfl := Option.some.inj h
    exact r_ireturn dX13_feed_19 rfl hQ (Nat.le_refl _) (Nat.le_refl _)
theorem tX13_end_b17 {l : Launch} {G : gg} {Γ : ly} {d : Nat} {Q : Option Value → ly → mm → Prop} (hdd : 0 ≤ d) (σ : mm)     (r : (Int32 × mm)) (h : fX13_end_b17 Γ.2 σ  = some r) (hQ : Q (some (.int r.1)) Γ r.2) : WP l G yX13_end cX13_end 2 (some .boolean) d 0 0 Q 0 0 17 [] [] Γ σ := by
  unfold fX13_end_b17 at h
  refine r_iconst (v := 0) dX13_end_17 (by decide) ?_
  obtain rfl := Option.some.inj h
  exact r_zreturn dX13_end_18 rfl (by decide) hQ (Nat.le_refl _) (Nat.le_refl _)
theorem kX13_end {l : Launch} {G : gg} {Γ : ly} {σ : mm} (d : Nat) (hdd : 0 ≤ d) (x0 : Nat) (x1 : Int32) (t0 : tyOK Γ (0, 12) x0) (r : (Int32 × mm)) (h : fX13_end Γ.2 σ x0 x1 = some r) : CT l G yX13_end cX13_end 2 (some .boolean) d 0 0 [.ref (G.2.1 x0), .int x1] Γ σ (PP (some (.int r.1)) Γ r.2) := by
  refine CT.ofWP (by decide) (Nat.le_of_ble_eq_true rfl) ?_
  have hQ : PP (some (.int r.1)) Γ r.2 (some (.int r.1)) Γ r.2 := PP.self
  generalize PP (some (.int r.1)) Γ r.2 = Q at hQ ⊢
  show WP l G yX13_end cX13_end 2 (some .boolean) d 0 0 Q 0 0 0 [(0, .ref (G.2.1 x0)), (1, .int x1)] [] Γ σ
  unfold fX13_end at h
  refine r_aload_n 0 dX13_end_0 rfl ?_
  refine r_iconst (v := 0) dX13_end_1 (by decide) ?_
  refine q_putI dX13_end_2 fd_X13_1 t0 h (fun τ1 h => ?_)
  refine r_iload_n 1 dX13_end_5 rfl ?_
  refine r_if_lt 17 dX13_end_6 (by decide) h (fun _ h => ?_) (fun _ h => ?_)
  · refine r_pick [] rfl ?_
    exact tX13_end_b17 hdd τ1  _ h hQ
  · refine r_iload_n 1 dX13_end_9 rfl ?_
    refine r_aload_n 0 dX13_end_10 rfl ?_
    refine r_getI dX13_end_11 fd_X13_11 t0 ?_
    refine r_icmp_le 19 dX13_end_14 (by decide) h (fun _ h => ?_) (fun _ h => ?_)
    · refine r_aload_n 0 dX13_end_19 rfl ?_
      refine r_iload_n 1 dX13_end_20 rfl ?_
      refine q_putI dX13_end_21 fd_X13_11 t0 h (fun τ2 h => ?_)
      refine r_iconst (v := 1) dX13_end_24 (by decide) ?_
      obtain rfl := Option.some.inj h
      exact r_zreturn dX13_end_25 rfl (by decide) hQ (Nat.le_refl _) (Nat.le_refl _)
    · refine r_pick [] rfl ?_
      exact tX13_end_b17 hdd τ1  _ h hQ
theorem kX13_take {l : Launch} {G : gg} {Γ : ly} {σ : mm} (d : Nat) (hdd : 0 ≤ d) (x0 : Nat) (t0 : tyOK Γ (0, 12) x0) (r : (Int32 × mm)) (h : fX13_take Γ.2 σ x0 = some r) : CT l G yX13_take cX13_take 2 (some .int) d 0 0 [.ref (G.2.1 x0)] Γ σ (PP (some (.int r.1)) Γ r.2) := by
  refine CT.ofWP (by decide) (Nat.le_of_ble_eq_true rfl) ?_
  have hQ : PP (some (.int r.1)) Γ r.2 (some (.int r.1)) Γ r.2 := PP.self
  generalize PP (some (.int r.1)) Γ r.2 = Q at hQ ⊢
  show WP l G yX13_take cX13_take 2 (some .int) d 0 0 Q 0 0 0 [(0, .ref (G.2.1 x0))] [] Γ σ
  unfold fX13_take at h
  refine r_aload_n 0 dX13_take_0 rfl ?_
  refine r_getI dX13_take_1 fd_X13_11 t0 ?_
  refine q_nmI h (fun v1 h => ?_)
  refine r_istore_n (lv' := [(1, .int v1), (0, .ref (G.2.1 x0))]) dX13_take_4 (by decide) rfl ?_
  refine r_aload_n 1 dX13_take_5 rfl ?_
  refine r_iconst (v := 0) dX13_take_6 (by decide) ?_
  refine q_putI dX13_take_7 fd_X13_11 t0 h (fun τ2 h => ?_)
  refine r_iload_n 0 dX13_take_10 rfl ?_
  obtain rfl := Option.some.inj h
  exact r_ireturn dX13_take_11 rfl hQ (Nat.le_refl _) (Nat.le_refl _)
theorem tX13_isIn_b15 {l : Launch} {G : gg} {Γ : ly} {d : Nat} {Q : Option Value → ly → mm → Prop} (hdd : 0 ≤ d) (σ : mm)  (s0 : Int32)   (r : Int32) (h : fX13_isIn_b15 Γ.2 σ s0 = some r) (hQ : Q (some (.int r)) Γ σ) : WP l G yX13_isIn cX13_isIn 3 (some .boolean) d 0 0 Q 0 0 15 [] [.int s0] Γ σ := by
  unfold fX13_isIn_b15 at h
  obtain ⟨hbz, h⟩ := rZ_some h
  obtain rfl := Option.some.inj h
  exact r_zreturn dX13_isIn_15 rfl hbz hQ (Nat.le_refl _) (Nat.le_refl _)
theorem tX13_isIn_b14 {l : Launch} {G : gg} {Γ : ly} {d : Nat} {Q : Option Value → ly → mm → Prop} (hdd : 0 ≤ d) (σ : mm)     (r : Int32) (h : fX13_isIn_b14 Γ.2 σ  = some r) (hQ : Q (some (.int r)) Γ σ) : WP l G yX13_isIn cX13_isIn 3 (some .boolean) d 0 0 Q 0 0 14 [] [] Γ σ := by
  unfold fX13_isIn_b14 at h
  refine r_iconst (v := 0) dX13_isIn_14 (by decide) ?_
  exact tX13_isIn_b15 hdd σ (0 : Int32)  _ h hQ
theorem kX13_isIn {l : Launch} {G : gg} {Γ : ly} {σ : mm} (d : Nat) (hdd : 0 ≤ d) (x0 : Int32) (x1 : Int32) (x2 : Int32)  (r : Int32) (h : fX13_isIn Γ.2 σ x0 x1 x2 = some r) : CT l G yX13_isIn cX13_isIn 3 (some .boolean) d 0 0 [.int x0, .int x1, .int x2] Γ σ (PP (some (.int r)) Γ σ) := by
  refine CT.ofWP (by decide) (Nat.le_of_ble_eq_true rfl) ?_
  have hQ : PP (some (.int r)) Γ σ (some (.int r)) Γ σ := PP.self
  generalize PP (some (.int r)) Γ σ = Q at hQ ⊢
  show WP l G yX13_isIn cX13_isIn 3 (some .boolean) d 0 0 Q 0 0 0 [(0, .int x0), (1, .int x1), (2, .int x2)] [] Γ σ
  unfold fX13_isIn at h
  refine r_iload_n 0 dX13_isIn_0 rfl ?_
  refine r_iload_n 1 dX13_isIn_1 rfl ?_
  refine r_icmp_lt 14 dX13_isIn_2 (by decide) h (fun _ h => ?_) (fun _ h => ?_)
  · refine r_pick [] rfl ?_
    exact tX13_isIn_b14 hdd σ  _ h hQ
  · refine r_iload_n 0 dX13_isIn_5 rfl ?_
    refine r_iload_n 2 dX13_isIn_6 rfl ?_
    refine r_icmp_gt 14 dX13_isIn_7 (by decide) h (fun _ h => ?_) (fun _ h => ?_)
    · refine r_pick [] rfl ?_
      exact tX13_isIn_b14 hdd σ  _ h hQ
    · refine r_iconst (v := 1) dX13_isIn_10 (by decide) ?_
      refine r_goto 15 dX13_isIn_11 (by decide) ?_
      refine r_pick [] rfl ?_
      exact tX13_isIn_b15 hdd σ (1 : Int32)  _ h hQ
theorem tX13_has_b14 {l : Launch} {G : gg} {Γ : ly} {d : Nat} {Q : Option Value → ly → mm → Prop} (hdd : 0 ≤ d) (σ : mm)  (s0 : Int32)   (r : Int32) (h : fX13_has_b14 Γ.2 σ s0 = some r) (hQ : Q (some (.int r)) Γ σ) : WP l G yX13_has cX13_has 2 (some .boolean) d 0 0 Q 0 0 14 [] [.int s0] Γ σ := by
  unfold fX13_has_b14 at h
  obtain ⟨hbz, h⟩ := rZ_some h
  obtain rfl := Option.some.inj h
  exact r_zreturn dX13_has_14 rfl hbz hQ (Nat.le_refl _) (Nat.le_refl _)
theorem kX13_has {l : Launch} {G : gg} {Γ : ly} {σ : mm} (d : Nat) (hdd : 0 ≤ d) (x0 : Int32) (x1 : Int32)  (r : Int32) (h : fX13_has Γ.2 σ x0 x1 = some r) : CT l G yX13_has cX13_has 2 (some .boolean) d 0 0 [.int x0, .int x1] Γ σ (PP (some (.int r)) Γ σ) := by
  refine CT.ofWP (by decide) (Nat.le_of_ble_eq_true rfl) ?_
  have hQ : PP (some (.int r)) Γ σ (some (.int r)) Γ σ := PP.self
  generalize PP (some (.int r)) Γ σ = Q at hQ ⊢
  show WP l G yX13_has cX13_has 2 (some .boolean) d 0 0 Q 0 0 0 [(0, .int x0), (1, .int x1)] [] Γ σ
  unfold fX13_has at h
  refine r_iload_n 0 dX13_has_0 rfl ?_
  refine r_iload_n 1 dX13_has_1 rfl ?_
  refine r_ishr dX13_has_2 ?_
  refine r_iconst (v := 1) dX13_has_3 (by decide) ?_
  refine r_iand dX13_has_4 ?_
  refine r_iconst (v := 1) dX13_has_5 (by decide) ?_
  refine r_icmp_ne 13 dX13_has_6 (by decide) h (fun _ h => ?_) (fun _ h => ?_)
  · refine r_iconst (v := 0) dX13_has_13 (by decide) ?_
    refine r_pick [] rfl ?_
    exact tX13_has_b14 hdd σ (0 : Int32)  _ h hQ
  · refine r_iconst (v := 1) dX13_has_9 (by decide) ?_
    refine r_goto 14 dX13_has_10 (by decide) ?_
    refine r_pick [] rfl ?_
    exact tX13_has_b14 hdd σ (1 : Int32)  _ h hQ
theorem tX13_least_b10 {l : Launch} {G : gg} {Γ : ly} {d : Nat} {Q : Option Value → ly → mm → Prop} (hdd : 0 ≤ d) (σ : mm)  (s0 : Int32)   (r : Int32) (h : fX13_least_b10 Γ.2 σ s0 = some r) (hQ : Q (some (.int r)) Γ σ) : WP l G yX13_least cX13_least 2 (some .int) d 0 0 Q 0 0 10 [] [.int s0] Γ σ := by
  unfold fX13_least_b10 at h
  obtain rfl := Option.some.inj h
  exact r_ireturn dX13_least_10 rfl hQ (Nat.le_refl _) (Nat.le_refl _)
theorem kX13_least {l : Launch} {G : gg} {Γ : ly} {σ : mm} (d : Nat) (hdd : 0 ≤ d) (x0 : Int32) (x1 : Int32)  (r : Int32) (h : fX13_least Γ.2 σ x0 x1 = some r) : CT l G yX13_least cX13_least 2 (some .int) d 0 0 [.int x0, .int x1] Γ σ (PP (some (.int r)) Γ σ) := by
  refine CT.ofWP (by decide) (Nat.le_of_ble_eq_true rfl) ?_
  have hQ : PP (some (.int r)) Γ σ (some (.int r)) Γ σ := PP.self
  generalize PP (some (.int r)) Γ σ = Q at hQ ⊢
  show WP l G yX13_least cX13_least 2 (some .int) d 0 0 Q 0 0 0 [(0, .int x0), (1, .int x1)] [] Γ σ
  unfold fX13_least at h
  refine r_iload_n 0 dX13_least_0 rfl ?_
  refine r_iload_n 1 dX13_least_1 rfl ?_
  refine r_icmp_ge 9 dX13_least_2 (by decide) h (fun _ h => ?_) (fun _ h => ?_)
  · refine r_iload_n 1 dX13_least_9 rfl ?_
    refine r_pick [] rfl ?_
    exact tX13_least_b10 hdd σ x1  _ h hQ
  · refine r_iload_n 0 dX13_least_5 rfl ?_
    refine r_goto 10 dX13_least_6 (by decide) ?_
    refine r_pick [] rfl ?_
    exact tX13_least_b10 hdd σ x0  _ h hQ
theorem tX13_tapeAt_b18 {l : Launch} {G : gg} {Γ : ly} {d : Nat} {Q : Option Value → ly → mm → Prop} (hdd : 0 ≤ d) (σ : mm)  (s0 : Int32)   (r : Int32) (h : fX13_tapeAt_b18 Γ.2 σ s0 = some r) (hQ : Q (some (.int r)) Γ σ) : WP l G yX13_tapeAt cX13_tapeAt 2 (some .int) d 0 0 Q 0 0 18 [] [.int s0] Γ σ := by
  unfold fX13_tapeAt_b18 at h
  obtain rfl := Option.some.inj h
  exact r_ireturn dX13_tapeAt_18 rfl hQ (Nat.le_refl _) (Nat.le_refl _)
theorem kX13_tapeAt {l : Launch} {G : gg} {Γ : ly} {σ : mm} (d : Nat) (hdd : 0 ≤ d) (x0 : Nat) (x1 : Int32) (t0 : tyOK Γ (0, 12) x0) (r : Int32) (h : fX13_tapeAt Γ.2 σ x0 x1 = some r) : CT l G yX13_tapeAt cX13_tapeAt 2 (some .int) d 0 0 [.ref (G.2.1 x0), .int x1] Γ σ (PP (some (.int r)) Γ σ) := by
  refine CT.ofWP (by decide) (Nat.le_of_ble_eq_true rfl) ?_
  have hQ : PP (some (.int r)) Γ σ (some (.int r)) Γ σ := PP.self
  generalize PP (some (.int r)) Γ σ = Q at hQ ⊢
  show WP l G yX13_tapeAt cX13_tapeAt 2 (some .int) d 0 0 Q 0 0 0 [(0, .ref (G.2.1 x0)), (1, .int x1)] [] Γ σ
  unfold fX13_tapeAt at h
  refine r_iload_n 1 dX13_tapeAt_0 rfl ?_
  refine r_aload_n 0 dX13_tapeAt_1 rfl ?_
  refine r_getI dX13_tapeAt_2 fd_X13_18 t0 ?_
  refine r_icmp_ge 17 dX13_tapeAt_5 (by decide) h (fun _ h => ?_) (fun _ h => ?_)
  · refine r_iconst (v := 0) dX13_tapeAt_17 (by decide) ?_
    refine r_pick [] rfl ?_
    exact tX13_tapeAt_b18 hdd σ (0 : Int32)  _ h hQ
  · refine r_aload_n 0 dX13_tapeAt_8 rfl ?_
    refine q_getR (e9 := (1, 0)) dX13_tapeAt_9 fd_X13_7 t0 rfl h (fun r1 tr1 h => ?_)
    refine r_iload_n 1 dX13_tapeAt_12 rfl ?_
    refine q_iald dX13_tapeAt_13 tr1 h (fun v2 h => ?_)
    refine r_goto 18 dX13_tapeAt_14 (by decide) ?_
    refine r_pick [] rfl ?_
    exact tX13_tapeAt_b18 hdd σ v2  _ h hQ
theorem tX13_isDigit_b17 {l : Launch} {G : gg} {Γ : ly} {d : Nat} {Q : Option Value → ly → mm → Prop} (hdd : 0 ≤ d) (σ : mm)  (s0 : Int32)   (r : Int32) (h : fX13_isDigit_b17 Γ.2 σ s0 = some r) (hQ : Q (some (.int r)) Γ σ) : WP l G yX13_isDigit cX13_isDigit 1 (some .boolean) d 0 0 Q 0 0 17 [] [.int s0] Γ σ := by
  unfold fX13_isDigit_b17 at h
  obtain ⟨hbz, h⟩ := rZ_some h
  obtain rfl := Option.some.inj h
  exact r_zreturn dX13_isDigit_17 rfl hbz hQ (Nat.le_refl _) (Nat.le_refl _)
theorem tX13_isDigit_b16 {l : Launch} {G : gg} {Γ : ly} {d : Nat} {Q : Option Value → ly → mm → Prop} (hdd : 0 ≤ d) (σ : mm)     (r : Int32) (h : fX13_isDigit_b16 Γ.2 σ  = some r) (hQ : Q (some (.int r)) Γ σ) : WP l G yX13_isDigit cX13_isDigit 1 (some .boolean) d 0 0 Q 0 0 16 [] [] Γ σ := by
  unfold fX13_isDigit_b16 at h
  refine r_iconst (v := 0) dX13_isDigit_16 (by decide) ?_
  exact tX13_isDigit_b17 hdd σ (0 : Int32)  _ h hQ
theorem kX13_isDigit {l : Launch} {G : gg} {Γ : ly} {σ : mm} (d : Nat) (hdd : 0 ≤ d) (x0 : Int32)  (r : Int32) (h : fX13_isDigit Γ.2 σ x0 = some r) : CT l G yX13_isDigit cX13_isDigit 1 (some .boolean) d 0 0 [.int x0] Γ σ (PP (some (.int r)) Γ σ) := by
  refine CT.ofWP (by decide) (Nat.le_of_ble_eq_true rfl) ?_
  have hQ : PP (some (.int r)) Γ σ (some (.int r)) Γ σ := PP.self
  generalize PP (some (.int r)) Γ σ = Q at hQ ⊢
  show WP l G yX13_isDigit cX13_isDigit 1 (some .boolean) d 0 0 Q 0 0 0 [(0, .int x0)] [] Γ σ
  unfold fX13_isDigit at h
  refine r_iload_n 0 dX13_isDigit_0 rfl ?_
  refine r_bipush (v := 48) dX13_isDigit_1 (by decide) ?_
  refine r_icmp_lt 16 dX13_isDigit_3 (by decide) h (fun _ h => ?_) (fun _ h => ?_)
  · refine r_pick [] rfl ?_
    exact tX13_isDigit_b16 hdd σ  _ h hQ
  · refine r_iload_n 0 dX13_isDigit_6 rfl ?_
    refine r_bipush (v := 57) dX13_isDigit_7 (by decide) ?_
    refine r_icmp_gt 16 dX13_isDigit_9 (by decide) h (fun _ h => ?_) (fun _ h => ?_)
    · refine r_pick [] rfl ?_
      exact tX13_isDigit_b16 hdd σ  _ h hQ
    · refine r_iconst (v := 1) dX13_isDigit_12 (by decide) ?_
      refine r_goto 17 dX13_isDigit_13 (by decide) ?_
      refine r_pick [] rfl ?_
      exact tX13_isDigit_b17 hdd σ (1 : Int32)  _ h hQ
theorem tX13_isLetter_b17 {l : Launch} {G : gg} {Γ : ly} {d : Nat} {Q : Option Value → ly → mm → Prop} (hdd : 0 ≤ d) (σ : mm)  (s0 : Int32)   (r : Int32) (h : fX13_isLetter_b17 Γ.2 σ s0 = some r) (hQ : Q (some (.int r)) Γ σ) : WP l G yX13_isLetter cX13_isLetter 1 (some .boolean) d 0 0 Q 0 0 17 [] [.int s0] Γ σ := by
  unfold fX13_isLetter_b17 at h
  obtain ⟨hbz, h⟩ := rZ_some h
  obtain rfl := Option.some.inj h
  exact r_zreturn dX13_isLetter_17 rfl hbz hQ (Nat.le_refl _) (Nat.le_refl _)
theorem tX13_isLetter_b16 {l : Launch} {G : gg} {Γ : ly} {d : Nat} {Q : Option Value → ly → mm → Prop} (hdd : 0 ≤ d) (σ : mm)     (r : Int32) (h : fX13_isLetter_b16 Γ.2 σ  = some r) (hQ : Q (some (.int r)) Γ σ) : WP l G yX13_isLetter cX13_isLetter 1 (some .boolean) d 0 0 Q 0 0 16 [] [] Γ σ := by
  unfold fX13_isLetter_b16 at h
  refine r_iconst (v := 0) dX13_isLetter_16 (by decide) ?_
  exact tX13_isLetter_b17 hdd σ (0 : Int32)  _ h hQ
theorem kX13_isLetter {l : Launch} {G : gg} {Γ : ly} {σ : mm} (d : Nat) (hdd : 0 ≤ d) (x0 : Int32)  (r : Int32) (h : fX13_isLetter Γ.2 σ x0 = some r) : CT l G yX13_isLetter cX13_isLetter 1 (some .boolean) d 0 0 [.int x0] Γ σ (PP (some (.int r)) Γ σ) := by
  refine CT.ofWP (by decide) (Nat.le_of_ble_eq_true rfl) ?_
  have hQ : PP (some (.int r)) Γ σ (some (.int r)) Γ σ := PP.self
  generalize PP (some (.int r)) Γ σ = Q at hQ ⊢
  show WP l G yX13_isLetter cX13_isLetter 1 (some .boolean) d 0 0 Q 0 0 0 [(0, .int x0)] [] Γ σ
  unfold fX13_isLetter at h
  refine r_iload_n 0 dX13_isLetter_0 rfl ?_
  refine r_bipush (v := 97) dX13_isLetter_1 (by decide) ?_
  refine r_icmp_lt 16 dX13_isLetter_3 (by decide) h (fun _ h => ?_) (fun _ h => ?_)
  · refine r_pick [] rfl ?_
    exact tX13_isLetter_b16 hdd σ  _ h hQ
  · refine r_iload_n 0 dX13_isLetter_6 rfl ?_
    refine r_bipush (v := 122) dX13_isLetter_7 (by decide) ?_
    refine r_icmp_gt 16 dX13_isLetter_9 (by decide) h (fun _ h => ?_) (fun _ h => ?_)
    · refine r_pick [] rfl ?_
      exact tX13_isLetter_b16 hdd σ  _ h hQ
    · refine r_iconst (v := 1) dX13_isLetter_12 (by decide) ?_
      refine r_goto 17 dX13_isLetter_13 (by decide) ?_
      refine r_pick [] rfl ?_
      exact tX13_isLetter_b17 hdd σ (1 : Int32)  _ h hQ
theorem tX13_go_b39 {l : Launch} {G : gg} {Γ : ly} {d : Nat} {Q : Option Value → ly → mm → Prop} (hdd : 1 ≤ d) (σ : mm) (x0 : Nat)  (t0 : tyOK Γ (0, 12) x0)  (r : (mm ⊕ mm)) (h : fX13_go_b39 Γ.2 σ x0 = some r) (hb : ∀ (σ9 : mm), r = .inl σ9 → WP l G yX13_go cX13_go 5 (none) d 0 0 Q 0 0 0 [(0, .ref (G.2.1 x0))] [] Γ σ9) (hx0 : ∀ (σ9 : mm), r = .inr σ9 → WP l G yX13_go cX13_go 5 (none) d 0 0 Q 0 0 52 [(0, .ref (G.2.1 x0))] [] Γ σ9) : WP l G yX13_go cX13_go 5 (none) d 0 0 Q 0 0 39 [(0, .ref (G.2.1 x0))] [] Γ σ := by
  unfold fX13_go_b39 at h
  refine r_aload_n 0 dX13_go_39 rfl ?_
  refine r_dup dX13_go_40 rfl ?_
  refine r_getI dX13_go_41 fd_X13_21 t0 ?_
  refine r_iconst (v := 1) dX13_go_44 (by decide) ?_
  refine r_iadd dX13_go_45 ?_
  refine q_putI dX13_go_46 fd_X13_21 t0 h (fun τ1 h => ?_)
  refine r_goto 0 dX13_go_49 (by decide) ?_
  obtain rfl := Option.some.inj h
  exact hb _ rfl
theorem sX13_go_L0 {l : Launch} {G : gg} {Γ : ly} {d : Nat} {Q : Option Value → ly → mm → Prop} (hdd : 1 ≤ d) (x0 : Nat) (t0 : tyOK Γ (0, 12) x0) {K : mm → Prop} (kx0 : ∀ (σ9 : mm), K σ9 → WP l G yX13_go cX13_go 5 (none) d 0 0 Q 0 0 52 [(0, .ref (G.2.1 x0))] [] Γ σ9) : ∀ (N : Nat) (s : mm) (b : mm), loopN (fX13_go_L0 Γ.2 x0) N s = some b → K b → WP l G yX13_go cX13_go 5 (none) d 0 0 Q 0 0 0 [(0, .ref (G.2.1 x0))] [] Γ s := by
  refine r_loop (f := fX13_go_L0 Γ.2 x0) (hlv := fun s => [(0, .ref (G.2.1 x0))]) (hsg := fun s => s) ?_
  rintro σ r h hb hx
  have hx0 : ∀ (σ9 : mm), r = .inr σ9 → WP l G yX13_go cX13_go 5 (none) d 0 0 Q 0 0 52 [(0, .ref (G.2.1 x0))] [] Γ σ9 := fun σ9 e => kx0 σ9 (hx _ e)
  unfold fX13_go_L0 at h
  show WP l G yX13_go cX13_go 5 (none) d 0 0 Q 0 0 0 [(0, .ref (G.2.1 x0))] [] Γ σ
  refine r_aload_n 0 dX13_go_0 rfl ?_
  refine r_getI dX13_go_1 fd_X13_21 t0 ?_
  refine r_aload_n 0 dX13_go_4 rfl ?_
  refine r_getI dX13_go_5 fd_X13_18 t0 ?_
  refine r_icmp_ge 52 dX13_go_8 (by decide) h (fun _ h => ?_) (fun _ h => ?_)
  · obtain rfl := Option.some.inj h
    exact hx0 _ rfl
  · refine r_aload_n 0 dX13_go_11 rfl ?_
    refine q_getR (e9 := (1, 0)) dX13_go_12 fd_X13_7 t0 rfl h (fun r1 tr1 h => ?_)
    refine r_aload_n 0 dX13_go_15 rfl ?_
    refine r_getI dX13_go_16 fd_X13_21 t0 ?_
    refine q_iald dX13_go_19 tr1 h (fun v2 h => ?_)
    refine r_bipush (v := 32) dX13_go_20 (by decide) ?_
    refine r_icmp_eq 39 dX13_go_22 (by decide) h (fun _ h => ?_) (fun _ h => ?_)
    · exact tX13_go_b39 hdd σ x0 t0 _ h hb hx0
    · refine r_aload_n 0 dX13_go_25 rfl ?_
      refine q_getR (e9 := (1, 0)) dX13_go_26 fd_X13_7 t0 rfl h (fun r3 tr3 h => ?_)
      refine r_aload_n 0 dX13_go_29 rfl ?_
      refine r_getI dX13_go_30 fd_X13_21 t0 ?_
      refine q_iald dX13_go_33 tr3 h (fun v4 h => ?_)
      refine r_bipush (v := 10) dX13_go_34 (by decide) ?_
      refine r_icmp_ne 52 dX13_go_36 (by decide) h (fun _ h => ?_) (fun _ h => ?_)
      · obtain rfl := Option.some.inj h
        exact hx0 _ rfl
      · exact tX13_go_b39 hdd σ x0 t0 _ h hb hx0
theorem tX13_go_b337 {l : Launch} {G : gg} {Γ : ly} {d : Nat} {Q : Option Value → ly → mm → Prop} (hdd : 1 ≤ d) (σ : mm) (x0 : Nat) (x2 : Int32) (x3 : Int32)  (t0 : tyOK Γ (0, 12) x0)  (r : ((Int32 × mm) ⊕ (Int32 × mm))) (h : fX13_go_b337 Γ.2 σ x0 x2 x3 = some r) (hb : ∀ (x3 : Int32) (σ9 : mm), r = .inl (x3, σ9) → WP l G yX13_go cX13_go 5 (none) d 0 0 Q 0 0 215 [(0, .ref (G.2.1 x0)), (2, .int x2), (3, .int x3)] [] Γ σ9) (hx0 : ∀ (x3 : Int32) (σ9 : mm), r = .inr (x3, σ9) → WP l G yX13_go cX13_go 5 (none) d 0 0 Q 0 0 350 [(0, .ref (G.2.1 x0)), (2, .int x2), (3, .int x3)] [] Γ σ9) : WP l G yX13_go cX13_go 5 (none) d 0 0 Q 0 0 337 [(0, .ref (G.2.1 x0)), (2, .int x2), (3, .int x3)] [] Γ σ := by
  unfold fX13_go_b337 at h
  refine r_aload_n 0 dX13_go_337 rfl ?_
  refine r_dup dX13_go_338 rfl ?_
  refine r_getI dX13_go_339 fd_X13_21 t0 ?_
  refine r_iconst (v := 1) dX13_go_342 (by decide) ?_
  refine r_iadd dX13_go_343 ?_
  refine q_putI dX13_go_344 fd_X13_21 t0 h (fun τ1 h => ?_)
  refine r_goto 215 dX13_go_347 (by decide) ?_
  obtain rfl := Option.some.inj h
  exact hb _ _ rfl
theorem tX13_go_b307 {l : Launch} {G : gg} {Γ : ly} {d : Nat} {Q : Option Value → ly → mm → Prop} (hdd : 1 ≤ d) (σ : mm) (x0 : Nat) (x2 : Int32) (x3 : Int32) (x4 : Int32)  (t0 : tyOK Γ (0, 12) x0)  (r : ((Int32 × mm) ⊕ (Int32 × mm))) (h : fX13_go_b307 Γ.2 σ x0 x2 x3 x4 = some r) (hb : ∀ (x3 : Int32) (σ9 : mm), r = .inl (x3, σ9) → WP l G yX13_go cX13_go 5 (none) d 0 0 Q 0 0 215 [(0, .ref (G.2.1 x0)), (2, .int x2), (3, .int x3)] [] Γ σ9) (hx0 : ∀ (x3 : Int32) (σ9 : mm), r = .inr (x3, σ9) → WP l G yX13_go cX13_go 5 (none) d 0 0 Q 0 0 350 [(0, .ref (G.2.1 x0)), (2, .int x2), (3, .int x3)] [] Γ σ9) : WP l G yX13_go cX13_go 5 (none) d 0 0 Q 0 0 307 [(0, .ref (G.2.1 x0)), (2, .int x2), (3, .int x3), (4, .int x4)] [] Γ σ := by
  unfold fX13_go_b307 at h
  refine r_aload_n 0 dX13_go_307 rfl ?_
  refine r_getI dX13_go_308 fd_X13_21 t0 ?_
  refine r_aload_n 0 dX13_go_311 rfl ?_
  refine r_getI dX13_go_312 fd_X13_24 t0 ?_
  refine r_isub dX13_go_315 ?_
  refine r_iconst (v := 3) dX13_go_316 (by decide) ?_
  refine r_icmp_ge 337 dX13_go_317 (by decide) h (fun _ h => ?_) (fun _ h => ?_)
  · refine r_pick [0, 1, 2] rfl ?_
    exact tX13_go_b337 hdd σ x0 x2 x3 t0 _ h hb hx0
  · refine r_aload_n 0 dX13_go_320 rfl ?_
    refine r_bipush (v := 10) dX13_go_321 (by decide) ?_
    refine r_aload_n 0 dX13_go_323 rfl ?_
    refine r_getI dX13_go_324 fd_X13_47 t0 ?_
    refine r_imul dX13_go_327 ?_
    refine r_iload 3 dX13_go_328 rfl ?_
    refine r_iadd dX13_go_330 ?_
    refine r_bipush (v := 48) dX13_go_331 (by decide) ?_
    refine r_isub dX13_go_333 ?_
    refine q_putI dX13_go_334 fd_X13_47 t0 h (fun τ1 h => ?_)
    refine r_pick [0, 1, 2] rfl ?_
    exact tX13_go_b337 hdd τ1 x0 x2 x3 t0 _ h hb hx0
theorem tX13_go_b272 {l : Launch} {G : gg} {Γ : ly} {d : Nat} {Q : Option Value → ly → mm → Prop} (hdd : 1 ≤ d) (σ : mm) (x0 : Nat) (x2 : Int32) (x4 : Int32) (s0 : Int32) (t0 : tyOK Γ (0, 12) x0)  (r : ((Int32 × mm) ⊕ (Int32 × mm))) (h : fX13_go_b272 Γ.2 σ x0 x2 x4 s0 = some r) (hb : ∀ (x3 : Int32) (σ9 : mm), r = .inl (x3, σ9) → WP l G yX13_go cX13_go 5 (none) d 0 0 Q 0 0 215 [(0, .ref (G.2.1 x0)), (2, .int x2), (3, .int x3)] [] Γ σ9) (hx0 : ∀ (x3 : Int32) (σ9 : mm), r = .inr (x3, σ9) → WP l G yX13_go cX13_go 5 (none) d 0 0 Q 0 0 350 [(0, .ref (G.2.1 x0)), (2, .int x2), (3, .int x3)] [] Γ σ9) : WP l G yX13_go cX13_go 5 (none) d 0 0 Q 0 0 272 [(0, .ref (G.2.1 x0)), (2, .int x2), (4, .int x4)] [.int s0] Γ σ := by
  unfold fX13_go_b272 at h
  refine r_istore_n (lv' := [(3, .int s0), (0, .ref (G.2.1 x0)), (2, .int x2), (4, .int x4)]) dX13_go_272 (by decide) rfl ?_
  refine r_aload_n 1 dX13_go_273 rfl ?_
  refine r_getI dX13_go_274 fd_X13_21 t0 ?_
  refine r_aload_n 1 dX13_go_277 rfl ?_
  refine r_getI dX13_go_278 fd_X13_24 t0 ?_
  refine r_isub dX13_go_281 ?_
  refine r_bipush (v := 7) dX13_go_282 (by decide) ?_
  refine r_icmp_ge 307 dX13_go_284 (by decide) h (fun _ h => ?_) (fun _ h => ?_)
  · refine r_pick [1, 2, 0, 3] rfl ?_
    exact tX13_go_b307 hdd σ x0 x2 s0 x4 t0 _ h hb hx0
  · refine r_aload_n 1 dX13_go_287 rfl ?_
    refine r_ldc2 (v := 27) dX13_go_288 kl_X13_54 ?_
    refine r_aload_n 1 dX13_go_291 rfl ?_
    refine r_getL dX13_go_292 fd_X13_43 t0 ?_
    refine r_lmul dX13_go_295 ?_
    refine r_iload 3 dX13_go_296 rfl ?_
    refine r_i2l dX13_go_298 ?_
    refine r_ladd dX13_go_299 ?_
    refine r_ldc2 (v := 96) dX13_go_300 kl_X13_56 ?_
    refine r_lsub dX13_go_303 ?_
    refine q_putL dX13_go_304 fd_X13_43 t0 h (fun τ1 h => ?_)
    refine r_pick [1, 2, 0, 3] rfl ?_
    exact tX13_go_b307 hdd τ1 x0 x2 s0 x4 t0 _ h hb hx0
theorem tX13_go_b271 {l : Launch} {G : gg} {Γ : ly} {d : Nat} {Q : Option Value → ly → mm → Prop} (hdd : 1 ≤ d) (σ : mm) (x0 : Nat) (x2 : Int32) (x4 : Int32)  (t0 : tyOK Γ (0, 12) x0)  (r : ((Int32 × mm) ⊕ (Int32 × mm))) (h : fX13_go_b271 Γ.2 σ x0 x2 x4 = some r) (hb : ∀ (x3 : Int32) (σ9 : mm), r = .inl (x3, σ9) → WP l G yX13_go cX13_go 5 (none) d 0 0 Q 0 0 215 [(0, .ref (G.2.1 x0)), (2, .int x2), (3, .int x3)] [] Γ σ9) (hx0 : ∀ (x3 : Int32) (σ9 : mm), r = .inr (x3, σ9) → WP l G yX13_go cX13_go 5 (none) d 0 0 Q 0 0 350 [(0, .ref (G.2.1 x0)), (2, .int x2), (3, .int x3)] [] Γ σ9) : WP l G yX13_go cX13_go 5 (none) d 0 0 Q 0 0 271 [(0, .ref (G.2.1 x0)), (2, .int x2), (4, .int x4)] [] Γ σ := by
  unfold fX13_go_b271 at h
  refine r_iconst (v := 0) dX13_go_271 (by decide) ?_
  exact tX13_go_b272 hdd σ x0 x2 x4 (0 : Int32) t0 _ h hb hx0
theorem tX13_go_b243 {l : Launch} {G : gg} {Γ : ly} {d : Nat} {Q : Option Value → ly → mm → Prop} (hdd : 1 ≤ d) (σ : mm) (x0 : Nat) (x2 : Int32) (x3 : Int32)  (t0 : tyOK Γ (0, 12) x0)  (r : ((Int32 × mm) ⊕ (Int32 × mm))) (h : fX13_go_b243 Γ.2 σ x0 x2 x3 = some r) (hb : ∀ (x3 : Int32) (σ9 : mm), r = .inl (x3, σ9) → WP l G yX13_go cX13_go 5 (none) d 0 0 Q 0 0 215 [(0, .ref (G.2.1 x0)), (2, .int x2), (3, .int x3)] [] Γ σ9) (hx0 : ∀ (x3 : Int32) (σ9 : mm), r = .inr (x3, σ9) → WP l G yX13_go cX13_go 5 (none) d 0 0 Q 0 0 350 [(0, .ref (G.2.1 x0)), (2, .int x2), (3, .int x3)] [] Γ σ9) : WP l G yX13_go cX13_go 5 (none) d 0 0 Q 0 0 243 [(0, .ref (G.2.1 x0)), (2, .int x2), (3, .int x3)] [] Γ σ := by
  unfold fX13_go_b243 at h
  refine r_aload_n 0 dX13_go_243 rfl ?_
  refine q_getR (e9 := (1, 0)) dX13_go_244 fd_X13_7 t0 rfl h (fun r1 tr1 h => ?_)
  refine r_aload_n 0 dX13_go_247 rfl ?_
  refine r_getI dX13_go_248 fd_X13_21 t0 ?_
  refine q_iald dX13_go_251 tr1 h (fun v2 h => ?_)
  refine r_istore (lv' := [(4, .int v2), (0, .ref (G.2.1 x0)), (2, .int x2), (3, .int x3)]) dX13_go_252 (by decide) rfl ?_
  refine r_iload_n 3 dX13_go_254 rfl ?_
  refine r_if_eq 271 dX13_go_255 (by decide) h (fun _ h => ?_) (fun _ h => ?_)
  · refine r_pick [1, 2, 0] rfl ?_
    exact tX13_go_b271 hdd σ x0 x2 v2 t0 _ h hb hx0
  · refine r_iload 0 dX13_go_258 rfl ?_
    obtain ⟨v3, ev3, h⟩ := bd0_some h
    refine q_cSI [.int v2] dX13_go_260 cs_X13_33 rfl rfl (Nat.le_of_ble_eq_true rfl) (by omega) (kX13_isLetter (d - 1) (by omega) v2  v3 ev3) ?_
    refine r_iload_n 2 dX13_go_263 rfl ?_
    refine r_icmp_ne 271 dX13_go_264 (by decide) h (fun _ h => ?_) (fun _ h => ?_)
    · refine r_pick [1, 2, 0] rfl ?_
      exact tX13_go_b271 hdd σ x0 x2 v2 t0 _ h hb hx0
    · refine r_iconst (v := 1) dX13_go_267 (by decide) ?_
      refine r_goto 272 dX13_go_268 (by decide) ?_
      refine r_pick [1, 2, 0] rfl ?_
      exact tX13_go_b272 hdd σ x0 x2 v2 (1 : Int32) t0 _ h hb hx0
theorem sX13_go_L215 {l : Launch} {G : gg} {Γ : ly} {d : Nat} {Q : Option Value → ly → mm → Prop} (hdd : 1 ≤ d) (x0 : Nat) (x2 : Int32) (t0 : tyOK Γ (0, 12) x0) {K : (Int32 × mm) → Prop} (kx0 : ∀ (x3 : Int32) (σ9 : mm), K (x3, σ9) → WP l G yX13_go cX13_go 5 (none) d 0 0 Q 0 0 350 [(0, .ref (G.2.1 x0)), (2, .int x2), (3, .int x3)] [] Γ σ9) : ∀ (N : Nat) (s : (Int32 × mm)) (b : (Int32 × mm)), loopN (fX13_go_L215 Γ.2 x0 x2) N s = some b → K b → WP l G yX13_go cX13_go 5 (none) d 0 0 Q 0 0 215 [(0, .ref (G.2.1 x0)), (2, .int x2), (3, .int s.1)] [] Γ s.2 := by
  refine r_loop (f := fX13_go_L215 Γ.2 x0 x2) (hlv := fun s => [(0, .ref (G.2.1 x0)), (2, .int x2), (3, .int s.1)]) (hsg := fun s => s.2) ?_
  rintro ⟨x3, σ⟩ r h hb hx
  have hb : ∀ (x3 : Int32) (σ : mm), r = .inl (x3, σ) → WP l G yX13_go cX13_go 5 (none) d 0 0 Q 0 0 215 [(0, .ref (G.2.1 x0)), (2, .int x2), (3, .int x3)] [] Γ σ := fun x3 σ e => hb (x3, σ) e
  have hx0 : ∀ (x3 : Int32) (σ9 : mm), r = .inr (x3, σ9) → WP l G yX13_go cX13_go 5 (none) d 0 0 Q 0 0 350 [(0, .ref (G.2.1 x0)), (2, .int x2), (3, .int x3)] [] Γ σ9 := fun x3 σ9 e => kx0 x3 σ9 (hx _ e)
  unfold fX13_go_L215 at h
  have h := un2_some h
  show WP l G yX13_go cX13_go 5 (none) d 0 0 Q 0 0 215 [(0, .ref (G.2.1 x0)), (2, .int x2), (3, .int x3)] [] Γ σ
  refine r_aload_n 0 dX13_go_215 rfl ?_
  refine r_aload_n 0 dX13_go_216 rfl ?_
  refine r_getI dX13_go_217 fd_X13_21 t0 ?_
  obtain ⟨v1, ev1, h⟩ := bd0_some h
  refine q_cVI [.int (σ.1 x0 5)] dX13_go_220 cv_X13_50 (ci := 12) rfl rfl t0 rfl rfl (Nat.le_of_ble_eq_true rfl) (by omega) (kX13_tapeAt (d - 1) (by omega) x0 (σ.1 x0 5) t0 v1 ev1) ?_
  obtain ⟨v2, ev2, h⟩ := bd0_some h
  refine q_cSI [.int v1] dX13_go_223 cs_X13_33 rfl rfl (Nat.le_of_ble_eq_true rfl) (by omega) (kX13_isLetter (d - 1) (by omega) v1  v2 ev2) ?_
  refine r_if_ne 243 dX13_go_226 (by decide) h (fun _ h => ?_) (fun _ h => ?_)
  · exact tX13_go_b243 hdd σ x0 x2 x3 t0 _ h hb hx0
  · refine r_aload_n 0 dX13_go_229 rfl ?_
    refine r_aload_n 0 dX13_go_230 rfl ?_
    refine r_getI dX13_go_231 fd_X13_21 t0 ?_
    obtain ⟨v3, ev3, h⟩ := bd0_some h
    refine q_cVI [.int (σ.1 x0 5)] dX13_go_234 cv_X13_50 (ci := 12) rfl rfl t0 rfl rfl (Nat.le_of_ble_eq_true rfl) (by omega) (kX13_tapeAt (d - 1) (by omega) x0 (σ.1 x0 5) t0 v3 ev3) ?_
    obtain ⟨v4, ev4, h⟩ := bd0_some h
    refine q_cSI [.int v3] dX13_go_237 cs_X13_37 rfl rfl (Nat.le_of_ble_eq_true rfl) (by omega) (kX13_isDigit (d - 1) (by omega) v3  v4 ev4) ?_
    refine r_if_eq 350 dX13_go_240 (by decide) h (fun _ h => ?_) (fun _ h => ?_)
    · obtain rfl := Option.some.inj h
      exact hx0 _ _ rfl
    · exact tX13_go_b243 hdd σ x0 x2 x3 t0 _ h hb hx0
theorem tX13_go_b390 {l : Launch} {G : gg} {Γ : ly} {d : Nat} {Q : Option Value → ly → mm → Prop} (hdd : 1 ≤ d) (σ : mm)  (s0 : Nat) (s1 : Int32)  (u0 : tyOK Γ (0, 12) s0) (r : mm) (h : fX13_go_b390 Γ.2 σ s0 s1 = some r) (hQ : Q none Γ r) : WP l G yX13_go cX13_go 5 (none) d 0 0 Q 0 0 390 [] [.int s1, .ref (G.2.1 s0)] Γ σ := by
  unfold fX13_go_b390 at h
  refine q_putI dX13_go_390 fd_X13_30 u0 h (fun τ1 h => ?_)
  obtain rfl := Option.some.inj h
  exact r_return dX13_go_393 rfl hQ (Nat.le_refl _) (Nat.le_refl _)
theorem tX13_go_b377 {l : Launch} {G : gg} {Γ : ly} {d : Nat} {Q : Option Value → ly → mm → Prop} (hdd : 1 ≤ d) (σ : mm)  (s0 : Nat)  (u0 : tyOK Γ (0, 12) s0) (r : mm) (h : fX13_go_b377 Γ.2 σ s0 = some r) (hQ : Q none Γ r) : WP l G yX13_go cX13_go 5 (none) d 0 0 Q 0 0 377 [] [.ref (G.2.1 s0)] Γ σ := by
  unfold fX13_go_b377 at h
  refine r_iconst (v := 1) dX13_go_377 (by decide) ?_
  refine r_goto 390 dX13_go_378 (by decide) ?_
  exact tX13_go_b390 hdd σ s0 (1 : Int32) u0 _ h hQ
theorem tX13_go_b374 {l : Launch} {G : gg} {Γ : ly} {d : Nat} {Q : Option Value → ly → mm → Prop} (hdd : 1 ≤ d) (σ : mm) (x2 : Int32) (s0 : Nat) (s1 : Int32) (s2 : Int32)  (u0 : tyOK Γ (0, 12) s0) (r : mm) (h : fX13_go_b374 Γ.2 σ x2 s0 s1 s2 = some r) (hQ : Q none Γ r) : WP l G yX13_go cX13_go 5 (none) d 0 0 Q 0 0 374 [(2, .int x2)] [.int s2, .int s1, .ref (G.2.1 s0)] Γ σ := by
  unfold fX13_go_b374 at h
  refine r_icmp_le 381 dX13_go_374 (by decide) h (fun _ h => ?_) (fun _ h => ?_)
  · refine r_iload_n 0 dX13_go_381 rfl ?_
    refine r_if_eq 389 dX13_go_382 (by decide) h (fun _ h => ?_) (fun _ h => ?_)
    · refine r_iconst (v := 3) dX13_go_389 (by decide) ?_
      refine r_pick [] rfl ?_
      exact tX13_go_b390 hdd σ s0 (3 : Int32) u0 _ h hQ
    · refine r_iconst (v := 2) dX13_go_385 (by decide) ?_
      refine r_goto 390 dX13_go_386 (by decide) ?_
      refine r_pick [] rfl ?_
      exact tX13_go_b390 hdd σ s0 (2 : Int32) u0 _ h hQ
  · refine r_pick [] rfl ?_
    exact tX13_go_b377 hdd σ s0 u0 _ h hQ
theorem tX13_go_b198 {l : Launch} {G : gg} {Γ : ly} {d : Nat} {Q : Option Value → ly → mm → Prop} (hdd : 1 ≤ d) (σ : mm) (x0 : Nat) (x1 : Int32)  (t0 : tyOK Γ (0, 12) x0)  (r : mm) (h : fX13_go_b198 Γ.2 σ x0 x1 = some r) (hQ : Q none Γ r) : WP l G yX13_go cX13_go 5 (none) d 0 0 Q 0 0 198 [(0, .ref (G.2.1 x0)), (1, .int x1)] [] Γ σ := by
  unfold fX13_go_b198 at h
  refine r_iload_n 1 dX13_go_198 rfl ?_
  obtain ⟨v1, ev1, h⟩ := bd0_some h
  refine q_cSI [.int x1] dX13_go_199 cs_X13_33 rfl rfl (Nat.le_of_ble_eq_true rfl) (by omega) (kX13_isLetter (d - 1) (by omega) x1  v1 ev1) ?_
  refine r_istore_n (lv' := [(2, .int v1), (0, .ref (G.2.1 x0)), (1, .int x1)]) dX13_go_202 (by decide) rfl ?_
  refine r_iconst (v := 1) dX13_go_203 (by decide) ?_
  refine r_istore_n (lv' := [(3, .int (1 : Int32)), (2, .int v1), (0, .ref (G.2.1 x0)), (1, .int x1)]) dX13_go_204 (by decide) rfl ?_
  refine r_aload_n 2 dX13_go_205 rfl ?_
  refine r_lconst (v := 0) dX13_go_206 (by decide) ?_
  refine q_putL dX13_go_207 fd_X13_43 t0 h (fun τ2 h => ?_)
  refine r_aload_n 2 dX13_go_210 rfl ?_
  refine r_iconst (v := 0) dX13_go_211 (by decide) ?_
  refine q_putI dX13_go_212 fd_X13_47 t0 h (fun τ3 h => ?_)
  obtain ⟨b4, eb4, h⟩ := bd0_some h
  refine r_pick [2, 1, 0] rfl ?_
  refine sX13_go_L215 hdd x0 v1 t0 (K := fun b => b = b4) ?_ 1000 ((1 : Int32), τ3) b4 eb4 rfl
  rintro v5 τ6 rfl
  have h := un2_some h
  refine r_aload_n 0 dX13_go_350 rfl ?_
  refine r_iload_n 2 dX13_go_351 rfl ?_
  refine r_if_eq 377 dX13_go_352 (by decide) h (fun _ h => ?_) (fun _ h => ?_)
  · refine r_pick [] rfl ?_
    exact tX13_go_b377 hdd τ6 x0 t0 _ h hQ
  · refine r_aload_n 0 dX13_go_355 rfl ?_
    refine r_getI dX13_go_356 fd_X13_21 t0 ?_
    refine r_aload_n 0 dX13_go_359 rfl ?_
    refine r_getI dX13_go_360 fd_X13_24 t0 ?_
    refine r_isub dX13_go_363 ?_
    refine r_iload_n 1 dX13_go_364 rfl ?_
    refine r_if_eq 373 dX13_go_365 (by decide) h (fun _ h => ?_) (fun _ h => ?_)
    · refine r_iconst (v := 3) dX13_go_373 (by decide) ?_
      refine r_pick [1] rfl ?_
      exact tX13_go_b374 hdd τ6 v1 x0 ((τ6.1 x0 5) - (τ6.1 x0 6)) (3 : Int32) t0 _ h hQ
    · refine r_bipush (v := 7) dX13_go_368 (by decide) ?_
      refine r_goto 374 dX13_go_370 (by decide) ?_
      refine r_pick [1] rfl ?_
      exact tX13_go_b374 hdd τ6 v1 x0 ((τ6.1 x0 5) - (τ6.1 x0 6)) (7 : Int32) t0 _ h hQ
theorem tX13_go_b179 {l : Launch} {G : gg} {Γ : ly} {d : Nat} {Q : Option Value → ly → mm → Prop} (hdd : 1 ≤ d) (σ : mm) (x0 : Nat) (x1 : Int32) (s0 : Nat) (s1 : Int32) (t0 : tyOK Γ (0, 12) x0) (u0 : tyOK Γ (0, 12) s0) (r : mm) (h : fX13_go_b179 Γ.2 σ x0 x1 s0 s1 = some r) (hQ : Q none Γ r) : WP l G yX13_go cX13_go 5 (none) d 0 0 Q 0 0 179 [(0, .ref (G.2.1 x0)), (1, .int x1)] [.int s1, .ref (G.2.1 s0)] Γ σ := by
  unfold fX13_go_b179 at h
  refine q_putI dX13_go_179 fd_X13_30 u0 h (fun τ1 h => ?_)
  refine r_aload_n 0 dX13_go_182 rfl ?_
  refine r_iload_n 1 dX13_go_183 rfl ?_
  refine q_putI dX13_go_184 fd_X13_40 t0 h (fun τ2 h => ?_)
  refine r_aload_n 0 dX13_go_187 rfl ?_
  refine r_dup dX13_go_188 rfl ?_
  refine r_getI dX13_go_189 fd_X13_21 t0 ?_
  refine r_iconst (v := 1) dX13_go_192 (by decide) ?_
  refine r_iadd dX13_go_193 ?_
  refine q_putI dX13_go_194 fd_X13_21 t0 h (fun τ3 h => ?_)
  obtain rfl := Option.some.inj h
  exact r_return dX13_go_197 rfl hQ (Nat.le_refl _) (Nat.le_refl _)
theorem tX13_go_b174 {l : Launch} {G : gg} {Γ : ly} {d : Nat} {Q : Option Value → ly → mm → Prop} (hdd : 1 ≤ d) (σ : mm) (x0 : Nat) (x1 : Int32) (s0 : Nat) (t0 : tyOK Γ (0, 12) x0) (u0 : tyOK Γ (0, 12) s0) (r : mm) (h : fX13_go_b174 Γ.2 σ x0 x1 s0 = some r) (hQ : Q none Γ r) : WP l G yX13_go cX13_go 5 (none) d 0 0 Q 0 0 174 [(0, .ref (G.2.1 x0)), (1, .int x1)] [.ref (G.2.1 s0)] Γ σ := by
  unfold fX13_go_b174 at h
  refine r_iconst (v := 4) dX13_go_174 (by decide) ?_
  refine r_goto 179 dX13_go_175 (by decide) ?_
  exact tX13_go_b179 hdd σ x0 x1 s0 (4 : Int32) t0 u0 _ h hQ
theorem tX13_go_b96 {l : Launch} {G : gg} {Γ : ly} {d : Nat} {Q : Option Value → ly → mm → Prop} (hdd : 1 ≤ d) (σ : mm) (x0 : Nat)  (t0 : tyOK Γ (0, 12) x0)  (r : mm) (h : fX13_go_b96 Γ.2 σ x0 = some r) (hQ : Q none Γ r) : WP l G yX13_go cX13_go 5 (none) d 0 0 Q 0 0 96 [(0, .ref (G.2.1 x0))] [] Γ σ := by
  unfold fX13_go_b96 at h
  refine r_aload_n 0 dX13_go_96 rfl ?_
  refine r_getI dX13_go_97 fd_X13_21 t0 ?_
  refine r_aload_n 0 dX13_go_100 rfl ?_
  refine r_getI dX13_go_101 fd_X13_18 t0 ?_
  refine r_icmp_lt 113 dX13_go_104 (by decide) h (fun _ h => ?_) (fun _ h => ?_)
  · refine r_aload_n 0 dX13_go_113 rfl ?_
    refine q_getR (e9 := (1, 0)) dX13_go_114 fd_X13_7 t0 rfl h (fun r1 tr1 h => ?_)
    refine r_aload_n 0 dX13_go_117 rfl ?_
    refine r_getI dX13_go_118 fd_X13_21 t0 ?_
    refine q_iald dX13_go_121 tr1 h (fun v2 h => ?_)
    refine r_istore_n (lv' := [(1, .int v2), (0, .ref (G.2.1 x0))]) dX13_go_122 (by decide) rfl ?_
    refine r_iload_n 0 dX13_go_123 rfl ?_
    obtain ⟨v3, ev3, h⟩ := bd0_some h
    refine q_cSI [.int v2] dX13_go_124 cs_X13_33 rfl rfl (Nat.le_of_ble_eq_true rfl) (by omega) (kX13_isLetter (d - 1) (by omega) v2  v3 ev3) ?_
    refine r_if_ne 198 dX13_go_127 (by decide) h (fun _ h => ?_) (fun _ h => ?_)
    · refine r_pick [1, 0] rfl ?_
      exact tX13_go_b198 hdd σ x0 v2 t0 _ h hQ
    · refine r_iload_n 0 dX13_go_130 rfl ?_
      obtain ⟨v4, ev4, h⟩ := bd0_some h
      refine q_cSI [.int v2] dX13_go_131 cs_X13_37 rfl rfl (Nat.le_of_ble_eq_true rfl) (by omega) (kX13_isDigit (d - 1) (by omega) v2  v4 ev4) ?_
      refine r_if_ne 198 dX13_go_134 (by decide) h (fun _ h => ?_) (fun _ h => ?_)
      · refine r_pick [1, 0] rfl ?_
        exact tX13_go_b198 hdd σ x0 v2 t0 _ h hQ
      · refine r_aload_n 1 dX13_go_137 rfl ?_
        refine r_iload_n 0 dX13_go_138 rfl ?_
        refine r_bipush (v := 59) dX13_go_139 (by decide) ?_
        refine r_icmp_eq 174 dX13_go_141 (by decide) h (fun _ h => ?_) (fun _ h => ?_)
        · refine r_pick [1, 0] rfl ?_
          exact tX13_go_b174 hdd σ x0 v2 x0 t0 t0 _ h hQ
        · refine r_iload_n 0 dX13_go_144 rfl ?_
          refine r_bipush (v := 60) dX13_go_145 (by decide) ?_
          refine r_icmp_eq 174 dX13_go_147 (by decide) h (fun _ h => ?_) (fun _ h => ?_)
          · refine r_pick [1, 0] rfl ?_
            exact tX13_go_b174 hdd σ x0 v2 x0 t0 t0 _ h hQ
          · refine r_iload_n 0 dX13_go_150 rfl ?_
            refine r_bipush (v := 61) dX13_go_151 (by decide) ?_
            refine r_icmp_eq 174 dX13_go_153 (by decide) h (fun _ h => ?_) (fun _ h => ?_)
            · refine r_pick [1, 0] rfl ?_
              exact tX13_go_b174 hdd σ x0 v2 x0 t0 t0 _ h hQ
            · refine r_iload_n 0 dX13_go_156 rfl ?_
              refine r_bipush (v := 62) dX13_go_157 (by decide) ?_
              refine r_icmp_eq 174 dX13_go_159 (by decide) h (fun _ h => ?_) (fun _ h => ?_)
              · refine r_pick [1, 0] rfl ?_
                exact tX13_go_b174 hdd σ x0 v2 x0 t0 t0 _ h hQ
              · refine r_iload_n 0 dX13_go_162 rfl ?_
                refine r_bipush (v := 40) dX13_go_163 (by decide) ?_
                refine r_icmp_eq 174 dX13_go_165 (by decide) h (fun _ h => ?_) (fun _ h => ?_)
                · refine r_pick [1, 0] rfl ?_
                  exact tX13_go_b174 hdd σ x0 v2 x0 t0 t0 _ h hQ
                · refine r_iload_n 0 dX13_go_168 rfl ?_
                  refine r_bipush (v := 41) dX13_go_169 (by decide) ?_
                  refine r_icmp_ne 178 dX13_go_171 (by decide) h (fun _ h => ?_) (fun _ h => ?_)
                  · refine r_iconst (v := 1) dX13_go_178 (by decide) ?_
                    refine r_pick [1, 0] rfl ?_
                    exact tX13_go_b179 hdd σ x0 v2 x0 (1 : Int32) t0 t0 _ h hQ
                  · refine r_pick [1, 0] rfl ?_
                    exact tX13_go_b174 hdd σ x0 v2 x0 t0 t0 _ h hQ
  · refine r_aload_n 0 dX13_go_107 rfl ?_
    refine r_iconst (v := 0) dX13_go_108 (by decide) ?_
    refine q_putI dX13_go_109 fd_X13_30 t0 h (fun τ5 h => ?_)
    obtain rfl := Option.some.inj h
    exact r_return dX13_go_112 rfl hQ (Nat.le_refl _) (Nat.le_refl _)
theorem tX13_go_b52 {l : Launch} {G : gg} {Γ : ly} {d : Nat} {Q : Option Value → ly → mm → Prop} (hdd : 1 ≤ d) (σ : mm) (x0 : Nat)  (t0 : tyOK Γ (0, 12) x0)  (r : mm) (h : fX13_go_b52 Γ.2 σ x0 = some r) (hQ : Q none Γ r) : WP l G yX13_go cX13_go 5 (none) d 0 0 Q 0 0 52 [(0, .ref (G.2.1 x0))] [] Γ σ := by
  unfold fX13_go_b52 at h
  refine r_aload_n 0 dX13_go_52 rfl ?_
  refine r_aload_n 0 dX13_go_53 rfl ?_
  refine r_getI dX13_go_54 fd_X13_21 t0 ?_
  refine q_putI dX13_go_57 fd_X13_24 t0 h (fun τ1 h => ?_)
  refine r_aload_n 0 dX13_go_60 rfl ?_
  refine r_getI dX13_go_61 fd_X13_18 t0 ?_
  refine r_aload_n 0 dX13_go_64 rfl ?_
  refine r_getI dX13_go_65 fd_X13_27 t0 ?_
  refine r_icmp_le 96 dX13_go_68 (by decide) h (fun _ h => ?_) (fun _ h => ?_)
  · exact tX13_go_b96 hdd τ1 x0 t0 _ h hQ
  · refine r_aload_n 0 dX13_go_71 rfl ?_
    refine r_getI dX13_go_72 fd_X13_24 t0 ?_
    refine r_aload_n 0 dX13_go_75 rfl ?_
    refine r_getI dX13_go_76 fd_X13_27 t0 ?_
    refine r_icmp_lt 96 dX13_go_79 (by decide) h (fun _ h => ?_) (fun _ h => ?_)
    · exact tX13_go_b96 hdd τ1 x0 t0 _ h hQ
    · refine r_aload_n 0 dX13_go_82 rfl ?_
      refine r_aload_n 0 dX13_go_83 rfl ?_
      refine r_getI dX13_go_84 fd_X13_27 t0 ?_
      refine q_putI dX13_go_87 fd_X13_24 t0 h (fun τ2 h => ?_)
      refine r_aload_n 0 dX13_go_90 rfl ?_
      refine r_iconst (v := 1) dX13_go_91 (by decide) ?_
      refine q_putI dX13_go_92 fd_X13_30 t0 h (fun τ3 h => ?_)
      obtain rfl := Option.some.inj h
      exact r_return dX13_go_95 rfl hQ (Nat.le_refl _) (Nat.le_refl _)
theorem kX13_go {l : Launch} {G : gg} {Γ : ly} {σ : mm} (d : Nat) (hdd : 1 ≤ d) (x0 : Nat) (t0 : tyOK Γ (0, 12) x0) (r : mm) (h : fX13_go Γ.2 σ x0 = some r) : CT l G yX13_go cX13_go 5 (none) d 0 0 [.ref (G.2.1 x0)] Γ σ (PP none Γ r) := by
  refine CT.ofWP (by decide) (Nat.le_of_ble_eq_true rfl) ?_
  have hQ : PP none Γ r none Γ r := PP.self
  generalize PP none Γ r = Q at hQ ⊢
  show WP l G yX13_go cX13_go 5 (none) d 0 0 Q 0 0 0 [(0, .ref (G.2.1 x0))] [] Γ σ
  unfold fX13_go at h
  obtain ⟨b1, eb1, h⟩ := bd0_some h
  refine sX13_go_L0 hdd x0 t0 (K := fun b => b = b1) ?_ 1000 σ b1 eb1 rfl
  rintro τ2 rfl
  exact tX13_go_b52 hdd τ2 x0 t0 _ h hQ
theorem tX13_spelt_b99 {l : Launch} {G : gg} {Γ : ly} {d : Nat} {Q : Option Value → ly → mm → Prop} (hdd : 0 ≤ d) (σ : mm) (x6 : Int64)    (r : Int64) (h : fX13_spelt_b99 Γ.2 σ x6 = some r) (hQ : Q (some (.long r)) Γ σ) : WP l G yX13_spelt cX13_spelt 8 (some .long) d 0 0 Q 0 0 99 [(6, .long x6)] [] Γ σ := by
  unfold fX13_spelt_b99 at h
  refine r_lload 0 dX13_spelt_99 rfl ?_
  obtain rfl := Option.some.inj h
  exact r_lreturn dX13_spelt_101 rfl hQ (Nat.le_refl _) (Nat.le_refl _)
theorem tX13_spelt_b78 {l : Launch} {G : gg} {Γ : ly} {d : Nat} {Q : Option Value → ly → mm → Prop} (hdd : 0 ≤ d) (σ : mm) (x5 : Int32) (x6 : Int64)    (r : Int64) (h : fX13_spelt_b78 Γ.2 σ x5 x6 = some r) (hQ : Q (some (.long r)) Γ σ) : WP l G yX13_spelt cX13_spelt 8 (some .long) d 0 0 Q 0 0 78 [(5, .int x5), (6, .long x6)] [] Γ σ := by
  unfold fX13_spelt_b78 at h
  refine r_iload 0 dX13_spelt_78 rfl ?_
  refine r_if_le 99 dX13_spelt_80 (by decide) h (fun _ h => ?_) (fun _ h => ?_)
  · refine r_pick [1] rfl ?_
    exact tX13_spelt_b99 hdd σ x6  _ h hQ
  · refine r_ldc2 (v := 27) dX13_spelt_83 kl_X13_54 ?_
    refine r_lload 1 dX13_spelt_86 rfl ?_
    refine r_lmul dX13_spelt_88 ?_
    refine r_iload 0 dX13_spelt_89 rfl ?_
    refine r_i2l dX13_spelt_91 ?_
    refine r_ladd dX13_spelt_92 ?_
    refine r_ldc2 (v := 96) dX13_spelt_93 kl_X13_56 ?_
    refine r_lsub dX13_spelt_96 ?_
    refine q_nmL h (fun v1 h => ?_)
    refine r_lstore (lv' := [(6, .long v1), (5, .int x5)]) dX13_spelt_97 (by decide) rfl ?_
    refine r_pick [0] rfl ?_
    exact tX13_spelt_b99 hdd σ v1  _ h hQ
theorem tX13_spelt_b57 {l : Launch} {G : gg} {Γ : ly} {d : Nat} {Q : Option Value → ly → mm → Prop} (hdd : 0 ≤ d) (σ : mm) (x4 : Int32) (x5 : Int32) (x6 : Int64)    (r : Int64) (h : fX13_spelt_b57 Γ.2 σ x4 x5 x6 = some r) (hQ : Q (some (.long r)) Γ σ) : WP l G yX13_spelt cX13_spelt 8 (some .long) d 0 0 Q 0 0 57 [(4, .int x4), (5, .int x5), (6, .long x6)] [] Γ σ := by
  unfold fX13_spelt_b57 at h
  refine r_iload 0 dX13_spelt_57 rfl ?_
  refine r_if_le 78 dX13_spelt_59 (by decide) h (fun _ h => ?_) (fun _ h => ?_)
  · refine r_pick [1, 2] rfl ?_
    exact tX13_spelt_b78 hdd σ x5 x6  _ h hQ
  · refine r_ldc2 (v := 27) dX13_spelt_62 kl_X13_54 ?_
    refine r_lload 2 dX13_spelt_65 rfl ?_
    refine r_lmul dX13_spelt_67 ?_
    refine r_iload 0 dX13_spelt_68 rfl ?_
    refine r_i2l dX13_spelt_70 ?_
    refine r_ladd dX13_spelt_71 ?_
    refine r_ldc2 (v := 96) dX13_spelt_72 kl_X13_56 ?_
    refine r_lsub dX13_spelt_75 ?_
    refine q_nmL h (fun v1 h => ?_)
    refine r_lstore (lv' := [(6, .long v1), (4, .int x4), (5, .int x5)]) dX13_spelt_76 (by decide) rfl ?_
    refine r_pick [2, 0] rfl ?_
    exact tX13_spelt_b78 hdd σ x5 v1  _ h hQ
theorem tX13_spelt_b38 {l : Launch} {G : gg} {Γ : ly} {d : Nat} {Q : Option Value → ly → mm → Prop} (hdd : 0 ≤ d) (σ : mm) (x3 : Int32) (x4 : Int32) (x5 : Int32) (x6 : Int64)    (r : Int64) (h : fX13_spelt_b38 Γ.2 σ x3 x4 x5 x6 = some r) (hQ : Q (some (.long r)) Γ σ) : WP l G yX13_spelt cX13_spelt 8 (some .long) d 0 0 Q 0 0 38 [(3, .int x3), (4, .int x4), (5, .int x5), (6, .long x6)] [] Γ σ := by
  unfold fX13_spelt_b38 at h
  refine r_iload_n 0 dX13_spelt_38 rfl ?_
  refine r_if_le 57 dX13_spelt_39 (by decide) h (fun _ h => ?_) (fun _ h => ?_)
  · refine r_pick [1, 2, 3] rfl ?_
    exact tX13_spelt_b57 hdd σ x4 x5 x6  _ h hQ
  · refine r_ldc2 (v := 27) dX13_spelt_42 kl_X13_54 ?_
    refine r_lload 3 dX13_spelt_45 rfl ?_
    refine r_lmul dX13_spelt_47 ?_
    refine r_iload_n 0 dX13_spelt_48 rfl ?_
    refine r_i2l dX13_spelt_49 ?_
    refine r_ladd dX13_spelt_50 ?_
    refine r_ldc2 (v := 96) dX13_spelt_51 kl_X13_56 ?_
    refine r_lsub dX13_spelt_54 ?_
    refine q_nmL h (fun v1 h => ?_)
    refine r_lstore (lv' := [(6, .long v1), (3, .int x3), (4, .int x4), (5, .int x5)]) dX13_spelt_55 (by decide) rfl ?_
    refine r_pick [2, 3, 0] rfl ?_
    exact tX13_spelt_b57 hdd σ x4 x5 v1  _ h hQ
theorem kX13_spelt {l : Launch} {G : gg} {Γ : ly} {σ : mm} (d : Nat) (hdd : 0 ≤ d) (x0 : Int32) (x1 : Int32) (x2 : Int32) (x3 : Int32) (x4 : Int32) (x5 : Int32)  (r : Int64) (h : fX13_spelt Γ.2 σ x0 x1 x2 x3 x4 x5 = some r) : CT l G yX13_spelt cX13_spelt 8 (some .long) d 0 0 [.int x0, .int x1, .int x2, .int x3, .int x4, .int x5] Γ σ (PP (some (.long r)) Γ σ) := by
  refine CT.ofWP (by decide) (Nat.le_of_ble_eq_true rfl) ?_
  have hQ : PP (some (.long r)) Γ σ (some (.long r)) Γ σ := PP.self
  generalize PP (some (.long r)) Γ σ = Q at hQ ⊢
  show WP l G yX13_spelt cX13_spelt 8 (some .long) d 0 0 Q 0 0 0 [(0, .int x0), (1, .int x1), (2, .int x2), (3, .int x3), (4, .int x4), (5, .int x5)] [] Γ σ
  unfold fX13_spelt at h
  refine r_ldc2 (v := 27) dX13_spelt_0 kl_X13_54 ?_
  refine r_iload_n 0 dX13_spelt_3 rfl ?_
  refine r_i2l dX13_spelt_4 ?_
  refine r_ldc2 (v := 96) dX13_spelt_5 kl_X13_56 ?_
  refine r_lsub dX13_spelt_8 ?_
  refine r_lmul dX13_spelt_9 ?_
  refine r_iload_n 1 dX13_spelt_10 rfl ?_
  refine r_i2l dX13_spelt_11 ?_
  refine r_ladd dX13_spelt_12 ?_
  refine r_ldc2 (v := 96) dX13_spelt_13 kl_X13_56 ?_
  refine r_lsub dX13_spelt_16 ?_
  refine q_nmL h (fun v1 h => ?_)
  refine r_lstore (lv' := [(6, .long v1), (0, .int x0), (1, .int x1), (2, .int x2), (3, .int x3), (4, .int x4), (5, .int x5)]) dX13_spelt_17 (by decide) rfl ?_
  refine r_iload_n 3 dX13_spelt_19 rfl ?_
  refine r_if_le 38 dX13_spelt_20 (by decide) h (fun _ h => ?_) (fun _ h => ?_)
  · refine r_pick [4, 5, 6, 0] rfl ?_
    exact tX13_spelt_b38 hdd σ x3 x4 x5 v1  _ h hQ
  · refine r_ldc2 (v := 27) dX13_spelt_23 kl_X13_54 ?_
    refine r_lload 0 dX13_spelt_26 rfl ?_
    refine r_lmul dX13_spelt_28 ?_
    refine r_iload_n 3 dX13_spelt_29 rfl ?_
    refine r_i2l dX13_spelt_30 ?_
    refine r_ladd dX13_spelt_31 ?_
    refine r_ldc2 (v := 96) dX13_spelt_32 kl_X13_56 ?_
    refine r_lsub dX13_spelt_35 ?_
    refine q_nmL h (fun v2 h => ?_)
    refine r_lstore (lv' := [(6, .long v2), (0, .int x0), (1, .int x1), (2, .int x2), (3, .int x3), (4, .int x4), (5, .int x5)]) dX13_spelt_36 (by decide) rfl ?_
    refine r_pick [4, 5, 6, 0] rfl ?_
    exact tX13_spelt_b38 hdd σ x3 x4 x5 v2  _ h hQ
