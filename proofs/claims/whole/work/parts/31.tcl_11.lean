/-! the walks, 11 -/
theorem tX12_isRunning_b27 {l : Launch} {G : gg} {Γ : ly} {d : Nat} {Q : Option Value → ly → mm → Prop} (hdd : 1 ≤ d) (σ : mm)  (s0 : Int32)   (r : Int32) (h : fX12_isRunning_b27 Γ.2 σ s0 = some r) (hQ : Q (some (.int r)) Γ σ) : WP l G yX12_isRunning cX12_isRunning 2 (some .boolean) d 0 0 Q 0 0 27 [] [.int s0] Γ σ := by
  unfold fX12_isRunning_b27 at h
  obtain ⟨hbz, h⟩ := rZ_some h
  obtain rfl := Option.some.inj h
  exact r_zreturn dX12_isRunning_27 rfl hbz hQ (Nat.le_refl _) (Nat.le_refl _)
theorem tX12_isRunning_b26 {l : Launch} {G : gg} {Γ : ly} {d : Nat} {Q : Option Value → ly → mm → Prop} (hdd : 1 ≤ d) (σ : mm)     (r : Int32) (h : fX12_isRunning_b26 Γ.2 σ  = some r) (hQ : Q (some (.int r)) Γ σ) : WP l G yX12_isRunning cX12_isRunning 2 (some .boolean) d 0 0 Q 0 0 26 [] [] Γ σ := by
  unfold fX12_isRunning_b26 at h
  refine r_iconst (v := 0) dX12_isRunning_26 (by decide) ?_
  exact tX12_isRunning_b27 hdd σ (0 : Int32)  _ h hQ
theorem kX12_isRunning {l : Launch} {G : gg} {Γ : ly} {σ : mm} (d : Nat) (hdd : 1 ≤ d) (x0 : Nat) (x1 : Int32) (t0 : tyOK Γ (0, 11) x0) (r : Int32) (h : fX12_isRunning Γ.2 σ x0 x1 = some r) : CT l G yX12_isRunning cX12_isRunning 2 (some .boolean) d 0 0 [.ref (G.2.1 x0), .int x1] Γ σ (PP (some (.int r)) Γ σ) := by
  refine CT.ofWP (by decide) (Nat.le_of_ble_eq_true rfl) ?_
  have hQ : PP (some (.int r)) Γ σ (some (.int r)) Γ σ := PP.self
  generalize PP (some (.int r)) Γ σ = Q at hQ ⊢
  show WP l G yX12_isRunning cX12_isRunning 2 (some .boolean) d 0 0 Q 0 0 0 [(0, .ref (G.2.1 x0)), (1, .int x1)] [] Γ σ
  unfold fX12_isRunning at h
  refine r_aload_n 0 dX12_isRunning_0 rfl ?_
  refine q_getR (e9 := (0, 4)) dX12_isRunning_1 fd_X12_19 t0 rfl h (fun r1 tr1 h => ?_)
  refine r_iload_n 1 dX12_isRunning_4 rfl ?_
  obtain ⟨v2, ev2, h⟩ := bd0_some h
  refine q_cVI [.int x1] dX12_isRunning_5 cv_X12_181 (ci := 4) rfl rfl tr1 rfl rfl (Nat.le_of_ble_eq_true rfl) (by omega) (kX4_hasGlass (d - 1) (by omega) r1 x1 tr1 v2 ev2) ?_
  refine r_if_eq 26 dX12_isRunning_8 (by decide) h (fun _ h => ?_) (fun _ h => ?_)
  · refine r_pick [] rfl ?_
    exact tX12_isRunning_b26 hdd σ  _ h hQ
  · refine r_aload_n 0 dX12_isRunning_11 rfl ?_
    refine q_getR (e9 := (0, 3)) dX12_isRunning_12 fd_X12_40 t0 rfl h (fun r3 tr3 h => ?_)
    refine r_iload_n 1 dX12_isRunning_15 rfl ?_
    obtain ⟨v4, ev4, h⟩ := bd0_some h
    refine q_cVI [.int x1] dX12_isRunning_16 cv_X12_204 (ci := 3) rfl rfl tr3 rfl rfl (Nat.le_of_ble_eq_true rfl) (by omega) (kX3_isLapsed (d - 1) (by omega) r3 x1 tr3 v4 ev4) ?_
    refine r_if_ne 26 dX12_isRunning_19 (by decide) h (fun _ h => ?_) (fun _ h => ?_)
    · refine r_pick [] rfl ?_
      exact tX12_isRunning_b26 hdd σ  _ h hQ
    · refine r_iconst (v := 1) dX12_isRunning_22 (by decide) ?_
      refine r_goto 27 dX12_isRunning_23 (by decide) ?_
      refine r_pick [] rfl ?_
      exact tX12_isRunning_b27 hdd σ (1 : Int32)  _ h hQ
theorem tX12_endOf_b28 {l : Launch} {G : gg} {Γ : ly} {d : Nat} {Q : Option Value → ly → mm → Prop} (hdd : 3 ≤ d) (σ : mm)  (s0 : Int32)   (r : (Int32 × mm)) (h : fX12_endOf_b28 Γ.2 σ s0 = some r) (hQ : Q (some (.int r.1)) Γ r.2) : WP l G yX12_endOf cX12_endOf 3 (some .int) d 0 0 Q 0 0 28 [] [.int s0] Γ σ := by
  unfold fX12_endOf_b28 at h
  obtain rfl := Option.some.inj h
  exact r_ireturn dX12_endOf_28 rfl hQ (Nat.le_refl _) (Nat.le_refl _)
theorem kX12_endOf {l : Launch} {G : gg} {Γ : ly} {σ : mm} (d : Nat) (hdd : 3 ≤ d) (x0 : Nat) (x1 : Int32) (t0 : tyOK Γ (0, 11) x0) (r : (Int32 × mm)) (h : fX12_endOf Γ.2 σ x0 x1 = some r) : CT l G yX12_endOf cX12_endOf 3 (some .int) d 0 0 [.ref (G.2.1 x0), .int x1] Γ σ (PP (some (.int r.1)) Γ r.2) := by
  refine CT.ofWP (by decide) (Nat.le_of_ble_eq_true rfl) ?_
  have hQ : PP (some (.int r.1)) Γ r.2 (some (.int r.1)) Γ r.2 := PP.self
  generalize PP (some (.int r.1)) Γ r.2 = Q at hQ ⊢
  show WP l G yX12_endOf cX12_endOf 3 (some .int) d 0 0 Q 0 0 0 [(0, .ref (G.2.1 x0)), (1, .int x1)] [] Γ σ
  unfold fX12_endOf at h
  refine r_aload_n 0 dX12_endOf_0 rfl ?_
  refine q_getR (e9 := (0, 1)) dX12_endOf_1 fd_X12_59 t0 rfl h (fun r1 tr1 h => ?_)
  refine r_iload_n 1 dX12_endOf_4 rfl ?_
  obtain ⟨τ2, eτ2, h⟩ := bd0_some h
  refine q_cVV [.int x1] dX12_endOf_5 cv_X12_299 (ci := 1) rfl rfl tr1 rfl rfl (Nat.le_of_ble_eq_true rfl) (by omega) (kX1_look (d - 1) (by omega) r1 x1 tr1 τ2 eτ2) ?_
  refine r_aload_n 0 dX12_endOf_8 rfl ?_
  refine q_getR (e9 := (0, 1)) dX12_endOf_9 fd_X12_59 t0 rfl h (fun r3 tr3 h => ?_)
  obtain ⟨v4, ev4, h⟩ := bd0_some h
  refine q_cVI [] dX12_endOf_12 cv_X12_302 (ci := 1) rfl rfl tr3 rfl rfl (Nat.le_of_ble_eq_true rfl) (by omega) (kX1_endNow (d - 1) (by omega) r3 tr3 v4 ev4) ?_
  refine r_istore_n (lv' := [(2, .int v4), (0, .ref (G.2.1 x0)), (1, .int x1)]) dX12_endOf_15 (by decide) rfl ?_
  refine r_iload_n 0 dX12_endOf_16 rfl ?_
  refine r_sipush (v := 600) dX12_endOf_17 (by decide) ?_
  refine r_icmp_ge 27 dX12_endOf_20 (by decide) h (fun _ h => ?_) (fun _ h => ?_)
  · refine r_iconst (v := -1) dX12_endOf_27 (by decide) ?_
    refine r_pick [] rfl ?_
    exact tX12_endOf_b28 hdd τ2 (-1 : Int32)  _ h hQ
  · refine r_iload_n 0 dX12_endOf_23 rfl ?_
    refine r_goto 28 dX12_endOf_24 (by decide) ?_
    refine r_pick [] rfl ?_
    exact tX12_endOf_b28 hdd τ2 v4  _ h hQ
theorem tX12_ends_b17 {l : Launch} {G : gg} {Γ : ly} {d : Nat} {Q : Option Value → ly → mm → Prop} (hdd : 4 ≤ d) (σ : mm)  (s0 : Int32)   (r : (Int32 × mm)) (h : fX12_ends_b17 Γ.2 σ s0 = some r) (hQ : Q (some (.int r.1)) Γ r.2) : WP l G yX12_ends cX12_ends 2 (some .int) d 0 0 Q 0 0 17 [] [.int s0] Γ σ := by
  unfold fX12_ends_b17 at h
  obtain rfl := Option.some.inj h
  exact r_ireturn dX12_ends_17 rfl hQ (Nat.le_refl _) (Nat.le_refl _)
theorem kX12_ends {l : Launch} {G : gg} {Γ : ly} {σ : mm} (d : Nat) (hdd : 4 ≤ d) (x0 : Nat) (x1 : Int32) (t0 : tyOK Γ (0, 11) x0) (r : (Int32 × mm)) (h : fX12_ends Γ.2 σ x0 x1 = some r) : CT l G yX12_ends cX12_ends 2 (some .int) d 0 0 [.ref (G.2.1 x0), .int x1] Γ σ (PP (some (.int r.1)) Γ r.2) := by
  refine CT.ofWP (by decide) (Nat.le_of_ble_eq_true rfl) ?_
  have hQ : PP (some (.int r.1)) Γ r.2 (some (.int r.1)) Γ r.2 := PP.self
  generalize PP (some (.int r.1)) Γ r.2 = Q at hQ ⊢
  show WP l G yX12_ends cX12_ends 2 (some .int) d 0 0 Q 0 0 0 [(0, .ref (G.2.1 x0)), (1, .int x1)] [] Γ σ
  unfold fX12_ends at h
  refine r_aload_n 0 dX12_ends_0 rfl ?_
  refine r_iload_n 1 dX12_ends_1 rfl ?_
  obtain ⟨v1, ev1, h⟩ := bd0_some h
  refine q_cVI [.int x1] dX12_ends_2 cv_X12_293 (ci := 11) rfl rfl t0 rfl rfl (Nat.le_of_ble_eq_true rfl) (by omega) (kX12_isRunning (d - 1) (by omega) x0 x1 t0 v1 ev1) ?_
  refine r_if_eq 16 dX12_ends_5 (by decide) h (fun _ h => ?_) (fun _ h => ?_)
  · refine r_iconst (v := -1) dX12_ends_16 (by decide) ?_
    refine r_pick [] rfl ?_
    exact tX12_ends_b17 hdd σ (-1 : Int32)  _ h hQ
  · refine r_aload_n 0 dX12_ends_8 rfl ?_
    refine r_iload_n 1 dX12_ends_9 rfl ?_
    obtain ⟨v2, τ3, ev2, h⟩ := bd2_some h
    refine q_cVI [.int x1] dX12_ends_10 cv_X12_296 (ci := 11) rfl rfl t0 rfl rfl (Nat.le_of_ble_eq_true rfl) (by omega) (kX12_endOf (d - 1) (by omega) x0 x1 t0 (v2, τ3) ev2) ?_
    refine r_goto 17 dX12_ends_13 (by decide) ?_
    refine r_pick [] rfl ?_
    exact tX12_ends_b17 hdd τ3 v2  _ h hQ
theorem kX12_lapseOf {l : Launch} {G : gg} {Γ : ly} {σ : mm} (d : Nat) (hdd : 3 ≤ d) (x0 : Nat) (x1 : Int32) (t0 : tyOK Γ (0, 11) x0) (r : (Int32 × mm)) (h : fX12_lapseOf Γ.2 σ x0 x1 = some r) : CT l G yX12_lapseOf cX12_lapseOf 2 (some .int) d 0 0 [.ref (G.2.1 x0), .int x1] Γ σ (PP (some (.int r.1)) Γ r.2) := by
  refine CT.ofWP (by decide) (Nat.le_of_ble_eq_true rfl) ?_
  have hQ : PP (some (.int r.1)) Γ r.2 (some (.int r.1)) Γ r.2 := PP.self
  generalize PP (some (.int r.1)) Γ r.2 = Q at hQ ⊢
  show WP l G yX12_lapseOf cX12_lapseOf 2 (some .int) d 0 0 Q 0 0 0 [(0, .ref (G.2.1 x0)), (1, .int x1)] [] Γ σ
  unfold fX12_lapseOf at h
  refine r_aload_n 0 dX12_lapseOf_0 rfl ?_
  refine q_getR (e9 := (0, 1)) dX12_lapseOf_1 fd_X12_59 t0 rfl h (fun r1 tr1 h => ?_)
  refine r_iload_n 1 dX12_lapseOf_4 rfl ?_
  obtain ⟨τ2, eτ2, h⟩ := bd0_some h
  refine q_cVV [.int x1] dX12_lapseOf_5 cv_X12_299 (ci := 1) rfl rfl tr1 rfl rfl (Nat.le_of_ble_eq_true rfl) (by omega) (kX1_look (d - 1) (by omega) r1 x1 tr1 τ2 eτ2) ?_
  refine r_aload_n 0 dX12_lapseOf_8 rfl ?_
  refine q_getR (e9 := (0, 1)) dX12_lapseOf_9 fd_X12_59 t0 rfl h (fun r3 tr3 h => ?_)
  refine r_aload_n 0 dX12_lapseOf_12 rfl ?_
  refine q_getR (e9 := (0, 3)) dX12_lapseOf_13 fd_X12_40 t0 rfl h (fun r4 tr4 h => ?_)
  refine q_getR (e9 := (1, 0)) dX12_lapseOf_16 fd_X12_198 tr4 rfl h (fun r5 tr5 h => ?_)
  refine r_iload_n 1 dX12_lapseOf_19 rfl ?_
  refine q_iald dX12_lapseOf_20 tr5 h (fun v6 h => ?_)
  refine r_aload_n 0 dX12_lapseOf_21 rfl ?_
  refine q_getR (e9 := (0, 4)) dX12_lapseOf_22 fd_X12_19 t0 rfl h (fun r7 tr7 h => ?_)
  refine r_getI dX12_lapseOf_25 fd_X12_248 tr7 ?_
  refine r_sipush (v := 600) dX12_lapseOf_28 (by decide) ?_
  obtain ⟨v8, ev8, h⟩ := bd0_some h
  refine q_cVI [.int v6, .int (τ2.1 r7 16), .int (600 : Int32)] dX12_lapseOf_31 cv_X12_308 (ci := 1) rfl rfl tr3 rfl rfl (Nat.le_of_ble_eq_true rfl) (by omega) (kX1_lapseHour (d - 1) (by omega) r3 v6 (τ2.1 r7 16) (600 : Int32) tr3 v8 ev8) ?_
  obtain rfl := Option.some.inj h
  exact r_ireturn dX12_lapseOf_34 rfl hQ (Nat.le_refl _) (Nat.le_refl _)
theorem tX12_lapses_b17 {l : Launch} {G : gg} {Γ : ly} {d : Nat} {Q : Option Value → ly → mm → Prop} (hdd : 4 ≤ d) (σ : mm)  (s0 : Int32)   (r : (Int32 × mm)) (h : fX12_lapses_b17 Γ.2 σ s0 = some r) (hQ : Q (some (.int r.1)) Γ r.2) : WP l G yX12_lapses cX12_lapses 2 (some .int) d 0 0 Q 0 0 17 [] [.int s0] Γ σ := by
  unfold fX12_lapses_b17 at h
  obtain rfl := Option.some.inj h
  exact r_ireturn dX12_lapses_17 rfl hQ (Nat.le_refl _) (Nat.le_refl _)
theorem kX12_lapses {l : Launch} {G : gg} {Γ : ly} {σ : mm} (d : Nat) (hdd : 4 ≤ d) (x0 : Nat) (x1 : Int32) (t0 : tyOK Γ (0, 11) x0) (r : (Int32 × mm)) (h : fX12_lapses Γ.2 σ x0 x1 = some r) : CT l G yX12_lapses cX12_lapses 2 (some .int) d 0 0 [.ref (G.2.1 x0), .int x1] Γ σ (PP (some (.int r.1)) Γ r.2) := by
  refine CT.ofWP (by decide) (Nat.le_of_ble_eq_true rfl) ?_
  have hQ : PP (some (.int r.1)) Γ r.2 (some (.int r.1)) Γ r.2 := PP.self
  generalize PP (some (.int r.1)) Γ r.2 = Q at hQ ⊢
  show WP l G yX12_lapses cX12_lapses 2 (some .int) d 0 0 Q 0 0 0 [(0, .ref (G.2.1 x0)), (1, .int x1)] [] Γ σ
  unfold fX12_lapses at h
  refine r_aload_n 0 dX12_lapses_0 rfl ?_
  refine r_iload_n 1 dX12_lapses_1 rfl ?_
  obtain ⟨v1, ev1, h⟩ := bd0_some h
  refine q_cVI [.int x1] dX12_lapses_2 cv_X12_293 (ci := 11) rfl rfl t0 rfl rfl (Nat.le_of_ble_eq_true rfl) (by omega) (kX12_isRunning (d - 1) (by omega) x0 x1 t0 v1 ev1) ?_
  refine r_if_eq 16 dX12_lapses_5 (by decide) h (fun _ h => ?_) (fun _ h => ?_)
  · refine r_iconst (v := -1) dX12_lapses_16 (by decide) ?_
    refine r_pick [] rfl ?_
    exact tX12_lapses_b17 hdd σ (-1 : Int32)  _ h hQ
  · refine r_aload_n 0 dX12_lapses_8 rfl ?_
    refine r_iload_n 1 dX12_lapses_9 rfl ?_
    obtain ⟨v2, τ3, ev2, h⟩ := bd2_some h
    refine q_cVI [.int x1] dX12_lapses_10 cv_X12_305 (ci := 11) rfl rfl t0 rfl rfl (Nat.le_of_ble_eq_true rfl) (by omega) (kX12_lapseOf (d - 1) (by omega) x0 x1 t0 (v2, τ3) ev2) ?_
    refine r_goto 17 dX12_lapses_13 (by decide) ?_
    refine r_pick [] rfl ?_
    exact tX12_lapses_b17 hdd τ3 v2  _ h hQ
theorem tX12_soonest_b58 {l : Launch} {G : gg} {Γ : ly} {d : Nat} {Q : Option Value → ly → mm → Prop} (hdd : 4 ≤ d) (σ : mm) (x0 : Nat) (x1 : Int32) (x2 : Int32) (x3 : Int32)  (t0 : tyOK Γ (0, 11) x0)  (r : ((Int32 × Int32 × Int32 × mm) ⊕ (Int32 × mm))) (h : fX12_soonest_b58 Γ.2 σ x0 x1 x2 x3 = some r) (hb : ∀ (x1 : Int32) (x2 : Int32) (x3 : Int32) (σ9 : mm), r = .inl (x1, x2, x3, σ9) → WP l G yX12_soonest cX12_soonest 5 (some .int) d 0 0 Q 0 0 8 [(0, .ref (G.2.1 x0)), (1, .int x1), (2, .int x2), (3, .int x3)] [] Γ σ9) (hx0 : ∀ (x1 : Int32) (σ9 : mm), r = .inr (x1, σ9) → WP l G yX12_soonest cX12_soonest 5 (some .int) d 0 0 Q 0 0 64 [(1, .int x1)] [] Γ σ9) : WP l G yX12_soonest cX12_soonest 5 (some .int) d 0 0 Q 0 0 58 [(0, .ref (G.2.1 x0)), (1, .int x1), (2, .int x2), (3, .int x3)] [] Γ σ := by
  unfold fX12_soonest_b58 at h
  refine q_iinc (v := 1) 3 (fun v1 => [(3, .int v1), (0, .ref (G.2.1 x0)), (1, .int x1), (2, .int x2)]) dX12_soonest_58 rfl (by decide) (by decide) (fun _ => rfl) h (fun v1 h => ?_)
  refine r_goto 8 dX12_soonest_61 (by decide) ?_
  obtain rfl := Option.some.inj h
  refine r_pick [1, 2, 3, 0] rfl ?_
  exact hb _ _ _ _ rfl
theorem tX12_soonest_b39 {l : Launch} {G : gg} {Γ : ly} {d : Nat} {Q : Option Value → ly → mm → Prop} (hdd : 4 ≤ d) (σ : mm) (x0 : Nat) (x1 : Int32) (x2 : Int32) (x3 : Int32) (s0 : Int32) (t0 : tyOK Γ (0, 11) x0)  (r : ((Int32 × Int32 × Int32 × mm) ⊕ (Int32 × mm))) (h : fX12_soonest_b39 Γ.2 σ x0 x1 x2 x3 s0 = some r) (hb : ∀ (x1 : Int32) (x2 : Int32) (x3 : Int32) (σ9 : mm), r = .inl (x1, x2, x3, σ9) → WP l G yX12_soonest cX12_soonest 5 (some .int) d 0 0 Q 0 0 8 [(0, .ref (G.2.1 x0)), (1, .int x1), (2, .int x2), (3, .int x3)] [] Γ σ9) (hx0 : ∀ (x1 : Int32) (σ9 : mm), r = .inr (x1, σ9) → WP l G yX12_soonest cX12_soonest 5 (some .int) d 0 0 Q 0 0 64 [(1, .int x1)] [] Γ σ9) : WP l G yX12_soonest cX12_soonest 5 (some .int) d 0 0 Q 0 0 39 [(0, .ref (G.2.1 x0)), (1, .int x1), (2, .int x2), (3, .int x3)] [.int s0] Γ σ := by
  unfold fX12_soonest_b39 at h
  refine r_istore (lv' := [(4, .int s0), (0, .ref (G.2.1 x0)), (1, .int x1), (2, .int x2), (3, .int x3)]) dX12_soonest_39 (by decide) rfl ?_
  refine r_iload 0 dX12_soonest_41 rfl ?_
  refine r_iconst (v := -1) dX12_soonest_43 (by decide) ?_
  refine r_icmp_eq 58 dX12_soonest_44 (by decide) h (fun _ h => ?_) (fun _ h => ?_)
  · refine r_pick [1, 2, 3, 4] rfl ?_
    exact tX12_soonest_b58 hdd σ x0 x1 x2 x3 t0 _ h hb hx0
  · refine r_iload 0 dX12_soonest_47 rfl ?_
    refine r_iload_n 3 dX12_soonest_49 rfl ?_
    refine r_icmp_ge 58 dX12_soonest_50 (by decide) h (fun _ h => ?_) (fun _ h => ?_)
    · refine r_pick [1, 2, 3, 4] rfl ?_
      exact tX12_soonest_b58 hdd σ x0 x1 x2 x3 t0 _ h hb hx0
    · refine r_iload_n 4 dX12_soonest_53 rfl ?_
      refine r_istore_n (lv' := [(1, .int x3), (4, .int s0), (0, .ref (G.2.1 x0)), (2, .int x2), (3, .int x3)]) dX12_soonest_54 (by decide) rfl ?_
      refine r_iload 1 dX12_soonest_55 rfl ?_
      refine r_istore_n (lv' := [(2, .int s0), (1, .int x3), (4, .int s0), (0, .ref (G.2.1 x0)), (3, .int x3)]) dX12_soonest_57 (by decide) rfl ?_
      refine r_pick [3, 1, 0, 4] rfl ?_
      exact tX12_soonest_b58 hdd σ x0 x3 s0 x3 t0 _ h hb hx0
theorem sX12_soonest_L8 {l : Launch} {G : gg} {Γ : ly} {d : Nat} {Q : Option Value → ly → mm → Prop} (hdd : 4 ≤ d) (x0 : Nat) (t0 : tyOK Γ (0, 11) x0) {K : (Int32 × mm) → Prop} (kx0 : ∀ (x1 : Int32) (σ9 : mm), K (x1, σ9) → WP l G yX12_soonest cX12_soonest 5 (some .int) d 0 0 Q 0 0 64 [(1, .int x1)] [] Γ σ9) : ∀ (N : Nat) (s : (Int32 × Int32 × Int32 × mm)) (b : (Int32 × mm)), loopN (fX12_soonest_L8 Γ.2 x0) N s = some b → K b → WP l G yX12_soonest cX12_soonest 5 (some .int) d 0 0 Q 0 0 8 [(0, .ref (G.2.1 x0)), (1, .int s.1), (2, .int s.2.1), (3, .int s.2.2.1)] [] Γ s.2.2.2 := by
  refine r_loop (f := fX12_soonest_L8 Γ.2 x0) (hlv := fun s => [(0, .ref (G.2.1 x0)), (1, .int s.1), (2, .int s.2.1), (3, .int s.2.2.1)]) (hsg := fun s => s.2.2.2) ?_
  rintro ⟨x1, x2, x3, σ⟩ r h hb hx
  have hb : ∀ (x1 : Int32) (x2 : Int32) (x3 : Int32) (σ : mm), r = .inl (x1, x2, x3, σ) → WP l G yX12_soonest cX12_soonest 5 (some .int) d 0 0 Q 0 0 8 [(0, .ref (G.2.1 x0)), (1, .int x1), (2, .int x2), (3, .int x3)] [] Γ σ := fun x1 x2 x3 σ e => hb (x1, x2, x3, σ) e
  have hx0 : ∀ (x1 : Int32) (σ9 : mm), r = .inr (x1, σ9) → WP l G yX12_soonest cX12_soonest 5 (some .int) d 0 0 Q 0 0 64 [(1, .int x1)] [] Γ σ9 := fun x1 σ9 e => kx0 x1 σ9 (hx _ e)
  unfold fX12_soonest_L8 at h
  have h := un4_some h
  show WP l G yX12_soonest cX12_soonest 5 (some .int) d 0 0 Q 0 0 8 [(0, .ref (G.2.1 x0)), (1, .int x1), (2, .int x2), (3, .int x3)] [] Γ σ
  refine r_iload_n 3 dX12_soonest_8 rfl ?_
  refine r_aload_n 0 dX12_soonest_9 rfl ?_
  refine q_getR (e9 := (0, 4)) dX12_soonest_10 fd_X12_19 t0 rfl h (fun r1 tr1 h => ?_)
  refine r_getI dX12_soonest_13 fd_X12_238 tr1 ?_
  refine r_icmp_ge 64 dX12_soonest_16 (by decide) h (fun _ h => ?_) (fun _ h => ?_)
  · obtain rfl := Option.some.inj h
    refine r_pick [1] rfl ?_
    exact hx0 _ _ rfl
  · refine r_aload_n 0 dX12_soonest_19 rfl ?_
    refine q_getR (e9 := (0, 3)) dX12_soonest_20 fd_X12_40 t0 rfl h (fun r2 tr2 h => ?_)
    refine r_iload_n 3 dX12_soonest_23 rfl ?_
    obtain ⟨v3, ev3, h⟩ := bd0_some h
    refine q_cVI [.int x3] dX12_soonest_24 cv_X12_204 (ci := 3) rfl rfl tr2 rfl rfl (Nat.le_of_ble_eq_true rfl) (by omega) (kX3_isLapsed (d - 1) (by omega) r2 x3 tr2 v3 ev3) ?_
    refine r_if_eq 34 dX12_soonest_27 (by decide) h (fun _ h => ?_) (fun _ h => ?_)
    · refine r_aload_n 0 dX12_soonest_34 rfl ?_
      refine r_iload_n 3 dX12_soonest_35 rfl ?_
      obtain ⟨v4, τ5, ev4, h⟩ := bd2_some h
      refine q_cVI [.int x3] dX12_soonest_36 cv_X12_305 (ci := 11) rfl rfl t0 rfl rfl (Nat.le_of_ble_eq_true rfl) (by omega) (kX12_lapseOf (d - 1) (by omega) x0 x3 t0 (v4, τ5) ev4) ?_
      exact tX12_soonest_b39 hdd τ5 x0 x1 x2 x3 v4 t0 _ h hb hx0
    · refine r_iconst (v := -1) dX12_soonest_30 (by decide) ?_
      refine r_goto 39 dX12_soonest_31 (by decide) ?_
      exact tX12_soonest_b39 hdd σ x0 x1 x2 x3 (-1 : Int32) t0 _ h hb hx0
theorem kX12_soonest {l : Launch} {G : gg} {Γ : ly} {σ : mm} (d : Nat) (hdd : 4 ≤ d) (x0 : Nat) (t0 : tyOK Γ (0, 11) x0) (r : (Int32 × mm)) (h : fX12_soonest Γ.2 σ x0 = some r) : CT l G yX12_soonest cX12_soonest 5 (some .int) d 0 0 [.ref (G.2.1 x0)] Γ σ (PP (some (.int r.1)) Γ r.2) := by
  refine CT.ofWP (by decide) (Nat.le_of_ble_eq_true rfl) ?_
  have hQ : PP (some (.int r.1)) Γ r.2 (some (.int r.1)) Γ r.2 := PP.self
  generalize PP (some (.int r.1)) Γ r.2 = Q at hQ ⊢
  show WP l G yX12_soonest cX12_soonest 5 (some .int) d 0 0 Q 0 0 0 [(0, .ref (G.2.1 x0))] [] Γ σ
  unfold fX12_soonest at h
  refine r_iconst (v := -1) dX12_soonest_0 (by decide) ?_
  refine r_istore_n (lv' := [(1, .int (-1 : Int32)), (0, .ref (G.2.1 x0))]) dX12_soonest_1 (by decide) rfl ?_
  refine r_sipush (v := 600) dX12_soonest_2 (by decide) ?_
  refine r_istore_n (lv' := [(2, .int (600 : Int32)), (1, .int (-1 : Int32)), (0, .ref (G.2.1 x0))]) dX12_soonest_5 (by decide) rfl ?_
  refine r_iconst (v := 0) dX12_soonest_6 (by decide) ?_
  refine r_istore_n (lv' := [(3, .int (0 : Int32)), (2, .int (600 : Int32)), (1, .int (-1 : Int32)), (0, .ref (G.2.1 x0))]) dX12_soonest_7 (by decide) rfl ?_
  obtain ⟨b1, eb1, h⟩ := bd0_some h
  refine r_pick [3, 2, 1, 0] rfl ?_
  refine sX12_soonest_L8 hdd x0 t0 (K := fun b => b = b1) ?_ 1000 ((-1 : Int32), (600 : Int32), (0 : Int32), σ) b1 eb1 rfl
  rintro v2 τ3 rfl
  have h := un2_some h
  refine r_iload_n 0 dX12_soonest_64 rfl ?_
  obtain rfl := Option.some.inj h
  exact r_ireturn dX12_soonest_65 rfl hQ (Nat.le_refl _) (Nat.le_refl _)
theorem tX12_watch_b18 {l : Launch} {G : gg} {Γ : ly} {d : Nat} {Q : Option Value → ly → mm → Prop} (hdd : 5 ≤ d) (σ : mm)     (r : (Int32 × mm)) (h : fX12_watch_b18 Γ.2 σ  = some r) (hQ : Q (some (.int r.1)) Γ r.2) : WP l G yX12_watch cX12_watch 3 (some .int) d 0 0 Q 0 0 18 [] [] Γ σ := by
  unfold fX12_watch_b18 at h
  refine r_iconst (v := -1) dX12_watch_18 (by decide) ?_
  obtain rfl := Option.some.inj h
  exact r_ireturn dX12_watch_19 rfl hQ (Nat.le_refl _) (Nat.le_refl _)
theorem kX12_watch {l : Launch} {G : gg} {Γ : ly} {σ : mm} (d : Nat) (hdd : 5 ≤ d) (x0 : Nat) (x1 : Int32) (x2 : Int32) (t0 : tyOK Γ (0, 11) x0) (r : (Int32 × mm)) (h : fX12_watch Γ.2 σ x0 x1 x2 = some r) : CT l G yX12_watch cX12_watch 3 (some .int) d 0 0 [.ref (G.2.1 x0), .int x1, .int x2] Γ σ (PP (some (.int r.1)) Γ r.2) := by
  refine CT.ofWP (by decide) (Nat.le_of_ble_eq_true rfl) ?_
  have hQ : PP (some (.int r.1)) Γ r.2 (some (.int r.1)) Γ r.2 := PP.self
  generalize PP (some (.int r.1)) Γ r.2 = Q at hQ ⊢
  show WP l G yX12_watch cX12_watch 3 (some .int) d 0 0 Q 0 0 0 [(0, .ref (G.2.1 x0)), (1, .int x1), (2, .int x2)] [] Γ σ
  unfold fX12_watch at h
  refine r_aload_n 0 dX12_watch_0 rfl ?_
  refine r_iload_n 1 dX12_watch_1 rfl ?_
  obtain ⟨v1, ev1, h⟩ := bd0_some h
  refine q_cVI [.int x1] dX12_watch_2 cv_X12_293 (ci := 11) rfl rfl t0 rfl rfl (Nat.le_of_ble_eq_true rfl) (by omega) (kX12_isRunning (d - 1) (by omega) x0 x1 t0 v1 ev1) ?_
  refine r_if_eq 18 dX12_watch_5 (by decide) h (fun _ h => ?_) (fun _ h => ?_)
  · refine r_pick [] rfl ?_
    exact tX12_watch_b18 hdd σ  _ h hQ
  · refine r_iconst (v := 1) dX12_watch_8 (by decide) ?_
    refine r_bipush (v := 60) dX12_watch_9 (by decide) ?_
    refine r_iload_n 2 dX12_watch_11 rfl ?_
    obtain ⟨v2, ev2, h⟩ := bd0_some h
    refine q_cSI [.int (1 : Int32), .int (60 : Int32), .int x2] dX12_watch_12 cs_X12_268 rfl rfl (Nat.le_of_ble_eq_true rfl) (by omega) (kX12_isFrom (d - 1) (by omega) (1 : Int32) (60 : Int32) x2  v2 ev2) ?_
    refine r_if_ne 20 dX12_watch_15 (by decide) h (fun _ h => ?_) (fun _ h => ?_)
    · refine r_aload_n 0 dX12_watch_20 rfl ?_
      refine q_getR (e9 := (0, 1)) dX12_watch_21 fd_X12_59 t0 rfl h (fun r3 tr3 h => ?_)
      refine r_iload_n 1 dX12_watch_24 rfl ?_
      obtain ⟨τ4, eτ4, h⟩ := bd0_some h
      refine q_cVV [.int x1] dX12_watch_25 cv_X12_299 (ci := 1) rfl rfl tr3 rfl rfl (Nat.le_of_ble_eq_true rfl) (by omega) (kX1_look (d - 1) (by omega) r3 x1 tr3 τ4 eτ4) ?_
      refine r_aload_n 0 dX12_watch_28 rfl ?_
      refine q_getR (e9 := (0, 10)) dX12_watch_29 fd_X12_68 t0 rfl h (fun r5 tr5 h => ?_)
      refine r_aload_n 0 dX12_watch_32 rfl ?_
      refine q_getR (e9 := (0, 3)) dX12_watch_33 fd_X12_40 t0 rfl h (fun r6 tr6 h => ?_)
      refine r_iload_n 2 dX12_watch_36 rfl ?_
      obtain ⟨v7, ev7, h⟩ := bd0_some h
      refine q_cVI [.int x2] dX12_watch_37 cv_X12_283 (ci := 3) rfl rfl tr6 rfl rfl (Nat.le_of_ble_eq_true rfl) (by omega) (kX3_hoursOf (d - 1) (by omega) r6 x2 tr6 v7 ev7) ?_
      obtain ⟨v8, τ9, ev8, h⟩ := bd2_some h
      refine q_cVI [.int v7] dX12_watch_40 cv_X12_311 (ci := 10) rfl rfl tr5 rfl rfl (Nat.le_of_ble_eq_true rfl) (by omega) (kX10_keepFor (d - 1) (by omega) r5 v7 tr5 (v8, τ9) ev8) ?_
      obtain rfl := Option.some.inj h
      exact r_ireturn dX12_watch_43 rfl hQ (Nat.le_refl _) (Nat.le_refl _)
    · refine r_pick [] rfl ?_
      exact tX12_watch_b18 hdd σ  _ h hQ
theorem kX12_waking {l : Launch} {G : gg} {Γ : ly} {σ : mm} (d : Nat) (hdd : 1 ≤ d) (x0 : Nat) (x1 : Int32) (t0 : tyOK Γ (0, 11) x0) (r : Int32) (h : fX12_waking Γ.2 σ x0 x1 = some r) : CT l G yX12_waking cX12_waking 2 (some .int) d 0 0 [.ref (G.2.1 x0), .int x1] Γ σ (PP (some (.int r)) Γ σ) := by
  refine CT.ofWP (by decide) (Nat.le_of_ble_eq_true rfl) ?_
  have hQ : PP (some (.int r)) Γ σ (some (.int r)) Γ σ := PP.self
  generalize PP (some (.int r)) Γ σ = Q at hQ ⊢
  show WP l G yX12_waking cX12_waking 2 (some .int) d 0 0 Q 0 0 0 [(0, .ref (G.2.1 x0)), (1, .int x1)] [] Γ σ
  unfold fX12_waking at h
  refine r_aload_n 0 dX12_waking_0 rfl ?_
  refine q_getR (e9 := (0, 10)) dX12_waking_1 fd_X12_68 t0 rfl h (fun r1 tr1 h => ?_)
  refine r_iload_n 1 dX12_waking_4 rfl ?_
  obtain ⟨v2, ev2, h⟩ := bd0_some h
  refine q_cVI [.int x1] dX12_waking_5 cv_X12_314 (ci := 10) rfl rfl tr1 rfl rfl (Nat.le_of_ble_eq_true rfl) (by omega) (kX10_wakingAt (d - 1) (by omega) r1 x1 tr1 v2 ev2) ?_
  obtain rfl := Option.some.inj h
  exact r_ireturn dX12_waking_8 rfl hQ (Nat.le_refl _) (Nat.le_refl _)
theorem kX12_chosen {l : Launch} {G : gg} {Γ : ly} {σ : mm} (d : Nat) (hdd : 3 ≤ d) (x0 : Nat) (x1 : Int32) (t0 : tyOK Γ (0, 11) x0) (r : (Int32 × mm)) (h : fX12_chosen Γ.2 σ x0 x1 = some r) : CT l G yX12_chosen cX12_chosen 2 (some .int) d 0 0 [.ref (G.2.1 x0), .int x1] Γ σ (PP (some (.int r.1)) Γ r.2) := by
  refine CT.ofWP (by decide) (Nat.le_of_ble_eq_true rfl) ?_
  have hQ : PP (some (.int r.1)) Γ r.2 (some (.int r.1)) Γ r.2 := PP.self
  generalize PP (some (.int r.1)) Γ r.2 = Q at hQ ⊢
  show WP l G yX12_chosen cX12_chosen 2 (some .int) d 0 0 Q 0 0 0 [(0, .ref (G.2.1 x0)), (1, .int x1)] [] Γ σ
  unfold fX12_chosen at h
  refine r_aload_n 0 dX12_chosen_0 rfl ?_
  refine r_iload_n 1 dX12_chosen_1 rfl ?_
  obtain ⟨v1, ev1, h⟩ := bd0_some h
  refine q_cVI [.int x1] dX12_chosen_2 cv_X12_293 (ci := 11) rfl rfl t0 rfl rfl (Nat.le_of_ble_eq_true rfl) (by omega) (kX12_isRunning (d - 1) (by omega) x0 x1 t0 v1 ev1) ?_
  refine r_if_ne 10 dX12_chosen_5 (by decide) h (fun _ h => ?_) (fun _ h => ?_)
  · refine r_aload_n 0 dX12_chosen_10 rfl ?_
    refine q_getR (e9 := (0, 1)) dX12_chosen_11 fd_X12_59 t0 rfl h (fun r2 tr2 h => ?_)
    refine r_iload_n 1 dX12_chosen_14 rfl ?_
    obtain ⟨τ3, eτ3, h⟩ := bd0_some h
    refine q_cVV [.int x1] dX12_chosen_15 cv_X12_299 (ci := 1) rfl rfl tr2 rfl rfl (Nat.le_of_ble_eq_true rfl) (by omega) (kX1_look (d - 1) (by omega) r2 x1 tr2 τ3 eτ3) ?_
    refine r_aload_n 0 dX12_chosen_18 rfl ?_
    refine q_getR (e9 := (0, 1)) dX12_chosen_19 fd_X12_59 t0 rfl h (fun r4 tr4 h => ?_)
    obtain ⟨τ5, eτ5, h⟩ := bd0_some h
    refine q_cVV [] dX12_chosen_22 cv_X12_317 (ci := 1) rfl rfl tr4 rfl rfl (Nat.le_of_ble_eq_true rfl) (by omega) (kX1_weighGrains (d - 1) (by omega) r4 tr4 τ5 eτ5) ?_
    refine r_aload_n 0 dX12_chosen_25 rfl ?_
    refine q_getR (e9 := (0, 1)) dX12_chosen_26 fd_X12_59 t0 rfl h (fun r6 tr6 h => ?_)
    refine r_getI dX12_chosen_29 fd_X12_320 tr6 ?_
    obtain rfl := Option.some.inj h
    exact r_ireturn dX12_chosen_32 rfl hQ (Nat.le_refl _) (Nat.le_refl _)
  · refine r_iconst (v := -1) dX12_chosen_8 (by decide) ?_
    obtain rfl := Option.some.inj h
    exact r_ireturn dX12_chosen_9 rfl hQ (Nat.le_refl _) (Nat.le_refl _)
theorem kX12_choices {l : Launch} {G : gg} {Γ : ly} {σ : mm} (d : Nat) (hdd : 3 ≤ d) (x0 : Nat) (x1 : Int32) (t0 : tyOK Γ (0, 11) x0) (r : (Int32 × mm)) (h : fX12_choices Γ.2 σ x0 x1 = some r) : CT l G yX12_choices cX12_choices 2 (some .int) d 0 0 [.ref (G.2.1 x0), .int x1] Γ σ (PP (some (.int r.1)) Γ r.2) := by
  refine CT.ofWP (by decide) (Nat.le_of_ble_eq_true rfl) ?_
  have hQ : PP (some (.int r.1)) Γ r.2 (some (.int r.1)) Γ r.2 := PP.self
  generalize PP (some (.int r.1)) Γ r.2 = Q at hQ ⊢
  show WP l G yX12_choices cX12_choices 2 (some .int) d 0 0 Q 0 0 0 [(0, .ref (G.2.1 x0)), (1, .int x1)] [] Γ σ
  unfold fX12_choices at h
  refine r_aload_n 0 dX12_choices_0 rfl ?_
  refine r_iload_n 1 dX12_choices_1 rfl ?_
  obtain ⟨v1, ev1, h⟩ := bd0_some h
  refine q_cVI [.int x1] dX12_choices_2 cv_X12_293 (ci := 11) rfl rfl t0 rfl rfl (Nat.le_of_ble_eq_true rfl) (by omega) (kX12_isRunning (d - 1) (by omega) x0 x1 t0 v1 ev1) ?_
  refine r_if_ne 10 dX12_choices_5 (by decide) h (fun _ h => ?_) (fun _ h => ?_)
  · refine r_aload_n 0 dX12_choices_10 rfl ?_
    refine q_getR (e9 := (0, 1)) dX12_choices_11 fd_X12_59 t0 rfl h (fun r2 tr2 h => ?_)
    refine r_iload_n 1 dX12_choices_14 rfl ?_
    obtain ⟨τ3, eτ3, h⟩ := bd0_some h
    refine q_cVV [.int x1] dX12_choices_15 cv_X12_299 (ci := 1) rfl rfl tr2 rfl rfl (Nat.le_of_ble_eq_true rfl) (by omega) (kX1_look (d - 1) (by omega) r2 x1 tr2 τ3 eτ3) ?_
    refine r_aload_n 0 dX12_choices_18 rfl ?_
    refine q_getR (e9 := (0, 1)) dX12_choices_19 fd_X12_59 t0 rfl h (fun r4 tr4 h => ?_)
    obtain ⟨τ5, eτ5, h⟩ := bd0_some h
    refine q_cVV [] dX12_choices_22 cv_X12_317 (ci := 1) rfl rfl tr4 rfl rfl (Nat.le_of_ble_eq_true rfl) (by omega) (kX1_weighGrains (d - 1) (by omega) r4 tr4 τ5 eτ5) ?_
    refine r_aload_n 0 dX12_choices_25 rfl ?_
    refine q_getR (e9 := (0, 1)) dX12_choices_26 fd_X12_59 t0 rfl h (fun r6 tr6 h => ?_)
    refine r_getI dX12_choices_29 fd_X12_323 tr6 ?_
    obtain rfl := Option.some.inj h
    exact r_ireturn dX12_choices_32 rfl hQ (Nat.le_refl _) (Nat.le_refl _)
  · refine r_iconst (v := -1) dX12_choices_8 (by decide) ?_
    obtain rfl := Option.some.inj h
    exact r_ireturn dX12_choices_9 rfl hQ (Nat.le_refl _) (Nat.le_refl _)
theorem kX12_play {l : Launch} {G : gg} {Γ : ly} {σ : mm} (d : Nat) (hdd : 4 ≤ d) (x0 : Nat) (x1 : Int32) (t0 : tyOK Γ (0, 11) x0) (r : (Int32 × mm)) (h : fX12_play Γ.2 σ x0 x1 = some r) : CT l G yX12_play cX12_play 2 (some .int) d 0 0 [.ref (G.2.1 x0), .int x1] Γ σ (PP (some (.int r.1)) Γ r.2) := by
  refine CT.ofWP (by decide) (Nat.le_of_ble_eq_true rfl) ?_
  have hQ : PP (some (.int r.1)) Γ r.2 (some (.int r.1)) Γ r.2 := PP.self
  generalize PP (some (.int r.1)) Γ r.2 = Q at hQ ⊢
  show WP l G yX12_play cX12_play 2 (some .int) d 0 0 Q 0 0 0 [(0, .ref (G.2.1 x0)), (1, .int x1)] [] Γ σ
  unfold fX12_play at h
  refine r_aload_n 0 dX12_play_0 rfl ?_
  refine r_iload_n 1 dX12_play_1 rfl ?_
  obtain ⟨v1, ev1, h⟩ := bd0_some h
  refine q_cVI [.int x1] dX12_play_2 cv_X12_293 (ci := 11) rfl rfl t0 rfl rfl (Nat.le_of_ble_eq_true rfl) (by omega) (kX12_isRunning (d - 1) (by omega) x0 x1 t0 v1 ev1) ?_
  refine r_if_ne 10 dX12_play_5 (by decide) h (fun _ h => ?_) (fun _ h => ?_)
  · refine r_aload_n 0 dX12_play_10 rfl ?_
    refine q_getR (e9 := (0, 1)) dX12_play_11 fd_X12_59 t0 rfl h (fun r2 tr2 h => ?_)
    refine r_iload_n 1 dX12_play_14 rfl ?_
    obtain ⟨τ3, eτ3, h⟩ := bd0_some h
    refine q_cVV [.int x1] dX12_play_15 cv_X12_299 (ci := 1) rfl rfl tr2 rfl rfl (Nat.le_of_ble_eq_true rfl) (by omega) (kX1_look (d - 1) (by omega) r2 x1 tr2 τ3 eτ3) ?_
    refine r_aload_n 0 dX12_play_18 rfl ?_
    refine q_getR (e9 := (0, 1)) dX12_play_19 fd_X12_59 t0 rfl h (fun r4 tr4 h => ?_)
    obtain ⟨τ5, eτ5, h⟩ := bd0_some h
    refine q_cVV [] dX12_play_22 cv_X12_326 (ci := 1) rfl rfl tr4 rfl rfl (Nat.le_of_ble_eq_true rfl) (by omega) (kX1_findLastTurner (d - 1) (by omega) r4 tr4 τ5 eτ5) ?_
    refine r_aload_n 0 dX12_play_25 rfl ?_
    refine q_getR (e9 := (0, 1)) dX12_play_26 fd_X12_59 t0 rfl h (fun r6 tr6 h => ?_)
    refine r_getI dX12_play_29 fd_X12_329 tr6 ?_
    obtain rfl := Option.some.inj h
    exact r_ireturn dX12_play_32 rfl hQ (Nat.le_refl _) (Nat.le_refl _)
  · refine r_iconst (v := -1) dX12_play_8 (by decide) ?_
    obtain rfl := Option.some.inj h
    exact r_ireturn dX12_play_9 rfl hQ (Nat.le_refl _) (Nat.le_refl _)
theorem kX12_playAt {l : Launch} {G : gg} {Γ : ly} {σ : mm} (d : Nat) (hdd : 4 ≤ d) (x0 : Nat) (x1 : Int32) (t0 : tyOK Γ (0, 11) x0) (r : (Int32 × mm)) (h : fX12_playAt Γ.2 σ x0 x1 = some r) : CT l G yX12_playAt cX12_playAt 2 (some .int) d 0 0 [.ref (G.2.1 x0), .int x1] Γ σ (PP (some (.int r.1)) Γ r.2) := by
  refine CT.ofWP (by decide) (Nat.le_of_ble_eq_true rfl) ?_
  have hQ : PP (some (.int r.1)) Γ r.2 (some (.int r.1)) Γ r.2 := PP.self
  generalize PP (some (.int r.1)) Γ r.2 = Q at hQ ⊢
  show WP l G yX12_playAt cX12_playAt 2 (some .int) d 0 0 Q 0 0 0 [(0, .ref (G.2.1 x0)), (1, .int x1)] [] Γ σ
  unfold fX12_playAt at h
  refine r_aload_n 0 dX12_playAt_0 rfl ?_
  refine r_iload_n 1 dX12_playAt_1 rfl ?_
  obtain ⟨v1, ev1, h⟩ := bd0_some h
  refine q_cVI [.int x1] dX12_playAt_2 cv_X12_293 (ci := 11) rfl rfl t0 rfl rfl (Nat.le_of_ble_eq_true rfl) (by omega) (kX12_isRunning (d - 1) (by omega) x0 x1 t0 v1 ev1) ?_
  refine r_if_ne 10 dX12_playAt_5 (by decide) h (fun _ h => ?_) (fun _ h => ?_)
  · refine r_aload_n 0 dX12_playAt_10 rfl ?_
    refine q_getR (e9 := (0, 1)) dX12_playAt_11 fd_X12_59 t0 rfl h (fun r2 tr2 h => ?_)
    refine r_iload_n 1 dX12_playAt_14 rfl ?_
    obtain ⟨τ3, eτ3, h⟩ := bd0_some h
    refine q_cVV [.int x1] dX12_playAt_15 cv_X12_299 (ci := 1) rfl rfl tr2 rfl rfl (Nat.le_of_ble_eq_true rfl) (by omega) (kX1_look (d - 1) (by omega) r2 x1 tr2 τ3 eτ3) ?_
    refine r_aload_n 0 dX12_playAt_18 rfl ?_
    refine q_getR (e9 := (0, 1)) dX12_playAt_19 fd_X12_59 t0 rfl h (fun r4 tr4 h => ?_)
    obtain ⟨τ5, eτ5, h⟩ := bd0_some h
    refine q_cVV [] dX12_playAt_22 cv_X12_326 (ci := 1) rfl rfl tr4 rfl rfl (Nat.le_of_ble_eq_true rfl) (by omega) (kX1_findLastTurner (d - 1) (by omega) r4 tr4 τ5 eτ5) ?_
    refine r_aload_n 0 dX12_playAt_25 rfl ?_
    refine q_getR (e9 := (0, 1)) dX12_playAt_26 fd_X12_59 t0 rfl h (fun r6 tr6 h => ?_)
    refine r_getI dX12_playAt_29 fd_X12_332 tr6 ?_
    obtain rfl := Option.some.inj h
    exact r_ireturn dX12_playAt_32 rfl hQ (Nat.le_refl _) (Nat.le_refl _)
  · refine r_iconst (v := -1) dX12_playAt_8 (by decide) ?_
    obtain rfl := Option.some.inj h
    exact r_ireturn dX12_playAt_9 rfl hQ (Nat.le_refl _) (Nat.le_refl _)
theorem tX12_steal_b26 {l : Launch} {G : gg} {Γ : ly} {d : Nat} {Q : Option Value → ly → mm → Prop} (hdd : 3 ≤ d) (σ : mm)     (r : (Int32 × mm)) (h : fX12_steal_b26 Γ.2 σ  = some r) (hQ : Q (some (.int r.1)) Γ r.2) : WP l G yX12_steal cX12_steal 4 (some .int) d 0 0 Q 0 0 26 [] [] Γ σ := by
  unfold fX12_steal_b26 at h
  refine r_iconst (v := -1) dX12_steal_26 (by decide) ?_
  obtain rfl := Option.some.inj h
  exact r_ireturn dX12_steal_27 rfl hQ (Nat.le_refl _) (Nat.le_refl _)
theorem sX12_steal_L38 {l : Launch} {G : gg} {Γ : ly} {d : Nat} {Q : Option Value → ly → mm → Prop} (hdd : 3 ≤ d) (σ : mm) (x0 : Nat) (x1 : Int32) (x2 : Int32) (t0 : tyOK Γ (0, 11) x0) {K : (Int32 ⊕ Unit) → Prop} (kx0 : ∀ (x3 : Int32), K (.inl x3) → WP l G yX12_steal cX12_steal 4 (some .int) d 0 0 Q 0 0 81 [(3, .int x3)] [] Γ σ) (kx1 : K (.inr ()) → WP l G yX12_steal cX12_steal 4 (some .int) d 0 0 Q 0 0 89 [] [] Γ σ) : ∀ (N : Nat) (s : Int32) (b : (Int32 ⊕ Unit)), loopN (fX12_steal_L38 Γ.2 σ x0 x1 x2) N s = some b → K b → WP l G yX12_steal cX12_steal 4 (some .int) d 0 0 Q 0 0 38 [(0, .ref (G.2.1 x0)), (1, .int x1), (2, .int x2), (3, .int s)] [] Γ σ := by
  refine r_loop (f := fX12_steal_L38 Γ.2 σ x0 x1 x2) (hlv := fun s => [(0, .ref (G.2.1 x0)), (1, .int x1), (2, .int x2), (3, .int s)]) (hsg := fun s => σ) ?_
  rintro x3 r h hb hx
  have hx0 : ∀ (x3 : Int32), r = .inr (.inl x3) → WP l G yX12_steal cX12_steal 4 (some .int) d 0 0 Q 0 0 81 [(3, .int x3)] [] Γ σ := fun x3 e => kx0 x3 (hx _ e)
  have hx1 : r = .inr (.inr ()) → WP l G yX12_steal cX12_steal 4 (some .int) d 0 0 Q 0 0 89 [] [] Γ σ := fun e => kx1  (hx _ e)
  unfold fX12_steal_L38 at h
  show WP l G yX12_steal cX12_steal 4 (some .int) d 0 0 Q 0 0 38 [(0, .ref (G.2.1 x0)), (1, .int x1), (2, .int x2), (3, .int x3)] [] Γ σ
  refine r_iload_n 3 dX12_steal_38 rfl ?_
  refine r_aload_n 0 dX12_steal_39 rfl ?_
  refine q_getR (e9 := (0, 3)) dX12_steal_40 fd_X12_40 t0 rfl h (fun r1 tr1 h => ?_)
  refine q_getR (e9 := (1, 0)) dX12_steal_43 fd_X12_198 tr1 rfl h (fun r2 tr2 h => ?_)
  refine r_iload_n 1 dX12_steal_46 rfl ?_
  refine q_iald dX12_steal_47 tr2 h (fun v3 h => ?_)
  refine r_icmp_gt 89 dX12_steal_48 (by decide) h (fun _ h => ?_) (fun _ h => ?_)
  · obtain rfl := Option.some.inj h
    refine r_pick [] rfl ?_
    exact hx1  rfl
  · refine r_aload_n 0 dX12_steal_51 rfl ?_
    refine q_getR (e9 := (0, 1)) dX12_steal_52 fd_X12_59 t0 rfl h (fun r4 tr4 h => ?_)
    refine r_aload_n 0 dX12_steal_55 rfl ?_
    refine q_getR (e9 := (0, 3)) dX12_steal_56 fd_X12_40 t0 rfl h (fun r5 tr5 h => ?_)
    refine q_getR (e9 := (1, 0)) dX12_steal_59 fd_X12_198 tr5 rfl h (fun r6 tr6 h => ?_)
    refine r_iload_n 1 dX12_steal_62 rfl ?_
    refine q_iald dX12_steal_63 tr6 h (fun v7 h => ?_)
    refine r_iload_n 3 dX12_steal_64 rfl ?_
    refine r_isub dX12_steal_65 ?_
    refine r_aload_n 0 dX12_steal_66 rfl ?_
    refine q_getR (e9 := (0, 4)) dX12_steal_67 fd_X12_19 t0 rfl h (fun r8 tr8 h => ?_)
    refine r_getI dX12_steal_70 fd_X12_248 tr8 ?_
    refine r_iload_n 2 dX12_steal_73 rfl ?_
    obtain ⟨v9, ev9, h⟩ := bd0_some h
    refine q_cVI [.int (v7 - x3), .int (σ.1 r8 16), .int x2] dX12_steal_74 cv_X12_308 (ci := 1) rfl rfl tr4 rfl rfl (Nat.le_of_ble_eq_true rfl) (by omega) (kX1_lapseHour (d - 1) (by omega) r4 (v7 - x3) (σ.1 r8 16) x2 tr4 v9 ev9) ?_
    refine r_iconst (v := -1) dX12_steal_77 (by decide) ?_
    refine r_icmp_eq 83 dX12_steal_78 (by decide) h (fun _ h => ?_) (fun _ h => ?_)
    · refine q_iinc (v := 1) 3 (fun v10 => [(3, .int v10), (0, .ref (G.2.1 x0)), (1, .int x1), (2, .int x2)]) dX12_steal_83 rfl (by decide) (by decide) (fun _ => rfl) h (fun v10 h => ?_)
      refine r_goto 38 dX12_steal_86 (by decide) ?_
      obtain rfl := Option.some.inj h
      refine r_pick [1, 2, 3, 0] rfl ?_
      exact hb _ rfl
    · obtain rfl := Option.some.inj h
      refine r_pick [3] rfl ?_
      exact hx0 _ rfl
theorem kX12_steal {l : Launch} {G : gg} {Γ : ly} {σ : mm} (d : Nat) (hdd : 3 ≤ d) (x0 : Nat) (x1 : Int32) (x2 : Int32) (t0 : tyOK Γ (0, 11) x0) (r : (Int32 × mm)) (h : fX12_steal Γ.2 σ x0 x1 x2 = some r) : CT l G yX12_steal cX12_steal 4 (some .int) d 0 0 [.ref (G.2.1 x0), .int x1, .int x2] Γ σ (PP (some (.int r.1)) Γ r.2) := by
  refine CT.ofWP (by decide) (Nat.le_of_ble_eq_true rfl) ?_
  have hQ : PP (some (.int r.1)) Γ r.2 (some (.int r.1)) Γ r.2 := PP.self
  generalize PP (some (.int r.1)) Γ r.2 = Q at hQ ⊢
  show WP l G yX12_steal cX12_steal 4 (some .int) d 0 0 Q 0 0 0 [(0, .ref (G.2.1 x0)), (1, .int x1), (2, .int x2)] [] Γ σ
  unfold fX12_steal at h
  refine r_aload_n 0 dX12_steal_0 rfl ?_
  refine r_iload_n 1 dX12_steal_1 rfl ?_
  obtain ⟨v1, ev1, h⟩ := bd0_some h
  refine q_cVI [.int x1] dX12_steal_2 cv_X12_293 (ci := 11) rfl rfl t0 rfl rfl (Nat.le_of_ble_eq_true rfl) (by omega) (kX12_isRunning (d - 1) (by omega) x0 x1 t0 v1 ev1) ?_
  refine r_if_eq 26 dX12_steal_5 (by decide) h (fun _ h => ?_) (fun _ h => ?_)
  · refine r_pick [] rfl ?_
    exact tX12_steal_b26 hdd σ  _ h hQ
  · refine r_iload_n 2 dX12_steal_8 rfl ?_
    refine r_aload_n 0 dX12_steal_9 rfl ?_
    refine q_getR (e9 := (0, 3)) dX12_steal_10 fd_X12_40 t0 rfl h (fun r2 tr2 h => ?_)
    refine r_getI dX12_steal_13 fd_X12_213 tr2 ?_
    refine r_icmp_le 26 dX12_steal_16 (by decide) h (fun _ h => ?_) (fun _ h => ?_)
    · refine r_pick [] rfl ?_
      exact tX12_steal_b26 hdd σ  _ h hQ
    · refine r_iload_n 2 dX12_steal_19 rfl ?_
      refine r_sipush (v := 600) dX12_steal_20 (by decide) ?_
      refine r_icmp_le 28 dX12_steal_23 (by decide) h (fun _ h => ?_) (fun _ h => ?_)
      · refine r_aload_n 0 dX12_steal_28 rfl ?_
        refine q_getR (e9 := (0, 1)) dX12_steal_29 fd_X12_59 t0 rfl h (fun r3 tr3 h => ?_)
        refine r_iload_n 1 dX12_steal_32 rfl ?_
        obtain ⟨τ4, eτ4, h⟩ := bd0_some h
        refine q_cVV [.int x1] dX12_steal_33 cv_X12_299 (ci := 1) rfl rfl tr3 rfl rfl (Nat.le_of_ble_eq_true rfl) (by omega) (kX1_look (d - 1) (by omega) r3 x1 tr3 τ4 eτ4) ?_
        refine r_iconst (v := 0) dX12_steal_36 (by decide) ?_
        refine r_istore_n (lv' := [(3, .int (0 : Int32)), (0, .ref (G.2.1 x0)), (1, .int x1), (2, .int x2)]) dX12_steal_37 (by decide) rfl ?_
        obtain ⟨b5, eb5, h⟩ := bd0_some h
        refine r_pick [1, 2, 3, 0] rfl ?_
        refine sX12_steal_L38 hdd τ4 x0 x1 x2 t0 (K := fun b => b = b5) ?_ ?_ 1000 (0 : Int32) b5 eb5 rfl
        · rintro v6 rfl
          have h := cs2_0 h
          refine r_iload_n 0 dX12_steal_81 rfl ?_
          obtain rfl := Option.some.inj h
          exact r_ireturn dX12_steal_82 rfl hQ (Nat.le_refl _) (Nat.le_refl _)
        · rintro rfl
          have h := cs2_1 h
          refine r_iconst (v := -1) dX12_steal_89 (by decide) ?_
          obtain rfl := Option.some.inj h
          exact r_ireturn dX12_steal_90 rfl hQ (Nat.le_refl _) (Nat.le_refl _)
      · refine r_pick [] rfl ?_
        exact tX12_steal_b26 hdd σ  _ h hQ
theorem sX12_leastGrace_L29 {l : Launch} {G : gg} {Γ : ly} {d : Nat} {Q : Option Value → ly → mm → Prop} (hdd : 3 ≤ d) (σ : mm) (x0 : Nat) (x1 : Int32) (x4 : Int32) (t0 : tyOK Γ (0, 11) x0) {K : Int32 → Prop} (kx0 : ∀ (x5 : Int32), K x5 → WP l G yX12_leastGrace cX12_leastGrace 6 (some .int) d 0 0 Q 0 0 66 [(5, .int x5)] [] Γ σ) : ∀ (N : Nat) (s : Int32) (b : Int32), loopN (fX12_leastGrace_L29 Γ.2 σ x0 x1 x4) N s = some b → K b → WP l G yX12_leastGrace cX12_leastGrace 6 (some .int) d 0 0 Q 0 0 29 [(0, .ref (G.2.1 x0)), (1, .int x1), (4, .int x4), (5, .int s)] [] Γ σ := by
  refine r_loop (f := fX12_leastGrace_L29 Γ.2 σ x0 x1 x4) (hlv := fun s => [(0, .ref (G.2.1 x0)), (1, .int x1), (4, .int x4), (5, .int s)]) (hsg := fun s => σ) ?_
  rintro x5 r h hb hx
  have hx0 : ∀ (x5 : Int32), r = .inr x5 → WP l G yX12_leastGrace cX12_leastGrace 6 (some .int) d 0 0 Q 0 0 66 [(5, .int x5)] [] Γ σ := fun x5 e => kx0 x5 (hx _ e)
  unfold fX12_leastGrace_L29 at h
  show WP l G yX12_leastGrace cX12_leastGrace 6 (some .int) d 0 0 Q 0 0 29 [(0, .ref (G.2.1 x0)), (1, .int x1), (4, .int x4), (5, .int x5)] [] Γ σ
  refine r_iload 3 dX12_leastGrace_29 rfl ?_
  refine r_bipush (v := 9) dX12_leastGrace_31 (by decide) ?_
  refine r_icmp_gt 66 dX12_leastGrace_33 (by decide) h (fun _ h => ?_) (fun _ h => ?_)
  · obtain rfl := Option.some.inj h
    refine r_pick [3] rfl ?_
    exact hx0 _ rfl
  · refine r_aload_n 0 dX12_leastGrace_36 rfl ?_
    refine q_getR (e9 := (0, 1)) dX12_leastGrace_37 fd_X12_59 t0 rfl h (fun r1 tr1 h => ?_)
    refine r_aload_n 0 dX12_leastGrace_40 rfl ?_
    refine q_getR (e9 := (0, 3)) dX12_leastGrace_41 fd_X12_40 t0 rfl h (fun r2 tr2 h => ?_)
    refine q_getR (e9 := (1, 0)) dX12_leastGrace_44 fd_X12_198 tr2 rfl h (fun r3 tr3 h => ?_)
    refine r_iload_n 1 dX12_leastGrace_47 rfl ?_
    refine q_iald dX12_leastGrace_48 tr3 h (fun v4 h => ?_)
    refine r_iload 3 dX12_leastGrace_49 rfl ?_
    refine r_iload 2 dX12_leastGrace_51 rfl ?_
    obtain ⟨v5, ev5, h⟩ := bd0_some h
    refine q_cVI [.int v4, .int x5, .int x4] dX12_leastGrace_53 cv_X12_308 (ci := 1) rfl rfl tr1 rfl rfl (Nat.le_of_ble_eq_true rfl) (by omega) (kX1_lapseHour (d - 1) (by omega) r1 v4 x5 x4 tr1 v5 ev5) ?_
    refine r_iconst (v := -1) dX12_leastGrace_56 (by decide) ?_
    refine r_icmp_eq 66 dX12_leastGrace_57 (by decide) h (fun _ h => ?_) (fun _ h => ?_)
    · obtain rfl := Option.some.inj h
      refine r_pick [3] rfl ?_
      exact hx0 _ rfl
    · refine q_iinc (v := 1) 3 (fun v6 => [(5, .int v6), (0, .ref (G.2.1 x0)), (1, .int x1), (4, .int x4)]) dX12_leastGrace_60 rfl (by decide) (by decide) (fun _ => rfl) h (fun v6 h => ?_)
      refine r_goto 29 dX12_leastGrace_63 (by decide) ?_
      obtain rfl := Option.some.inj h
      refine r_pick [1, 2, 3, 0] rfl ?_
      exact hb _ rfl
theorem tX12_leastGrace_b66 {l : Launch} {G : gg} {Γ : ly} {d : Nat} {Q : Option Value → ly → mm → Prop} (hdd : 3 ≤ d) (σ : mm) (x5 : Int32)    (r : (Int32 × mm)) (h : fX12_leastGrace_b66 Γ.2 σ x5 = some r) (hQ : Q (some (.int r.1)) Γ r.2) : WP l G yX12_leastGrace cX12_leastGrace 6 (some .int) d 0 0 Q 0 0 66 [(5, .int x5)] [] Γ σ := by
  unfold fX12_leastGrace_b66 at h
  refine r_iload 0 dX12_leastGrace_66 rfl ?_
  obtain rfl := Option.some.inj h
  exact r_ireturn dX12_leastGrace_68 rfl hQ (Nat.le_refl _) (Nat.le_refl _)
theorem kX12_leastGrace {l : Launch} {G : gg} {Γ : ly} {σ : mm} (d : Nat) (hdd : 3 ≤ d) (x0 : Nat) (x1 : Int32) (x2 : Int32) (x3 : Int32) (t0 : tyOK Γ (0, 11) x0) (r : (Int32 × mm)) (h : fX12_leastGrace Γ.2 σ x0 x1 x2 x3 = some r) : CT l G yX12_leastGrace cX12_leastGrace 6 (some .int) d 0 0 [.ref (G.2.1 x0), .int x1, .int x2, .int x3] Γ σ (PP (some (.int r.1)) Γ r.2) := by
  refine CT.ofWP (by decide) (Nat.le_of_ble_eq_true rfl) ?_
  have hQ : PP (some (.int r.1)) Γ r.2 (some (.int r.1)) Γ r.2 := PP.self
  generalize PP (some (.int r.1)) Γ r.2 = Q at hQ ⊢
  show WP l G yX12_leastGrace cX12_leastGrace 6 (some .int) d 0 0 Q 0 0 0 [(0, .ref (G.2.1 x0)), (1, .int x1), (2, .int x2), (3, .int x3)] [] Γ σ
  unfold fX12_leastGrace at h
  refine r_aload_n 0 dX12_leastGrace_0 rfl ?_
  refine q_getR (e9 := (0, 1)) dX12_leastGrace_1 fd_X12_59 t0 rfl h (fun r1 tr1 h => ?_)
  refine r_iload_n 1 dX12_leastGrace_4 rfl ?_
  obtain ⟨τ2, eτ2, h⟩ := bd0_some h
  refine q_cVV [.int x1] dX12_leastGrace_5 cv_X12_299 (ci := 1) rfl rfl tr1 rfl rfl (Nat.le_of_ble_eq_true rfl) (by omega) (kX1_look (d - 1) (by omega) r1 x1 tr1 τ2 eτ2) ?_
  refine r_aload_n 0 dX12_leastGrace_8 rfl ?_
  refine q_getR (e9 := (0, 3)) dX12_leastGrace_9 fd_X12_40 t0 rfl h (fun r3 tr3 h => ?_)
  refine r_getI dX12_leastGrace_12 fd_X12_213 tr3 ?_
  refine r_aload_n 0 dX12_leastGrace_15 rfl ?_
  refine q_getR (e9 := (0, 3)) dX12_leastGrace_16 fd_X12_40 t0 rfl h (fun r4 tr4 h => ?_)
  refine r_iload_n 2 dX12_leastGrace_19 rfl ?_
  obtain ⟨v5, ev5, h⟩ := bd0_some h
  refine q_cVI [.int x2] dX12_leastGrace_20 cv_X12_283 (ci := 3) rfl rfl tr4 rfl rfl (Nat.le_of_ble_eq_true rfl) (by omega) (kX3_hoursOf (d - 1) (by omega) r4 x2 tr4 v5 ev5) ?_
  refine r_iadd dX12_leastGrace_23 ?_
  refine q_nmI h (fun v6 h => ?_)
  refine r_istore (lv' := [(4, .int v6), (0, .ref (G.2.1 x0)), (1, .int x1), (2, .int x2), (3, .int x3)]) dX12_leastGrace_24 (by decide) rfl ?_
  refine r_iload_n 4 dX12_leastGrace_26 rfl ?_
  refine r_istore (lv' := [(5, .int x3), (4, .int v6), (0, .ref (G.2.1 x0)), (1, .int x1), (2, .int x2), (3, .int x3)]) dX12_leastGrace_27 (by decide) rfl ?_
  obtain ⟨b7, eb7, h⟩ := bd0_some h
  refine r_pick [2, 3, 1, 0] rfl ?_
  refine sX12_leastGrace_L29 hdd τ2 x0 x1 v6 t0 (K := fun b => b = b7) ?_ 1000 x3 b7 eb7 rfl
  rintro v8 rfl
  exact tX12_leastGrace_b66 hdd τ2 v8  _ h hQ
theorem tX12_law_b39 {l : Launch} {G : gg} {Γ : ly} {d : Nat} {Q : Option Value → ly → mm → Prop} (hdd : 4 ≤ d) (σ : mm)     (r : (Int32 × mm)) (h : fX12_law_b39 Γ.2 σ  = some r) (hQ : Q (some (.int r.1)) Γ r.2) : WP l G yX12_law cX12_law 5 (some .int) d 0 0 Q 0 0 39 [] [] Γ σ := by
  unfold fX12_law_b39 at h
  refine r_iconst (v := -1) dX12_law_39 (by decide) ?_
  obtain rfl := Option.some.inj h
  exact r_ireturn dX12_law_40 rfl hQ (Nat.le_refl _) (Nat.le_refl _)
theorem tX12_law_b77 {l : Launch} {G : gg} {Γ : ly} {d : Nat} {Q : Option Value → ly → mm → Prop} (hdd : 4 ≤ d) (σ : mm) (x0 : Nat) (x1 : Int32) (x2 : Int32) (x3 : Int32) (x4 : Int32)  (t0 : tyOK Γ (0, 11) x0)  (r : ((Int32 × Int32 × mm) ⊕ (Int32 × mm))) (h : fX12_law_b77 Γ.2 σ x0 x1 x2 x3 x4 = some r) (hb : ∀ (x3 : Int32) (x4 : Int32) (σ9 : mm), r = .inl (x3, x4, σ9) → WP l G yX12_law cX12_law 5 (some .int) d 0 0 Q 0 0 46 [(0, .ref (G.2.1 x0)), (1, .int x1), (2, .int x2), (3, .int x3), (4, .int x4)] [] Γ σ9) (hx0 : ∀ (x3 : Int32) (σ9 : mm), r = .inr (x3, σ9) → WP l G yX12_law cX12_law 5 (some .int) d 0 0 Q 0 0 83 [(3, .int x3)] [] Γ σ9) : WP l G yX12_law cX12_law 5 (some .int) d 0 0 Q 0 0 77 [(0, .ref (G.2.1 x0)), (1, .int x1), (2, .int x2), (3, .int x3), (4, .int x4)] [] Γ σ := by
  unfold fX12_law_b77 at h
  refine q_iinc (v := 1) 4 (fun v1 => [(4, .int v1), (0, .ref (G.2.1 x0)), (1, .int x1), (2, .int x2), (3, .int x3)]) dX12_law_77 rfl (by decide) (by decide) (fun _ => rfl) h (fun v1 h => ?_)
  refine r_goto 46 dX12_law_80 (by decide) ?_
  obtain rfl := Option.some.inj h
  refine r_pick [1, 2, 3, 4, 0] rfl ?_
  exact hb _ _ _ rfl
theorem sX12_law_L46 {l : Launch} {G : gg} {Γ : ly} {d : Nat} {Q : Option Value → ly → mm → Prop} (hdd : 4 ≤ d) (x0 : Nat) (x1 : Int32) (x2 : Int32) (t0 : tyOK Γ (0, 11) x0) {K : (Int32 × mm) → Prop} (kx0 : ∀ (x3 : Int32) (σ9 : mm), K (x3, σ9) → WP l G yX12_law cX12_law 5 (some .int) d 0 0 Q 0 0 83 [(3, .int x3)] [] Γ σ9) : ∀ (N : Nat) (s : (Int32 × Int32 × mm)) (b : (Int32 × mm)), loopN (fX12_law_L46 Γ.2 x0 x1 x2) N s = some b → K b → WP l G yX12_law cX12_law 5 (some .int) d 0 0 Q 0 0 46 [(0, .ref (G.2.1 x0)), (1, .int x1), (2, .int x2), (3, .int s.1), (4, .int s.2.1)] [] Γ s.2.2 := by
  refine r_loop (f := fX12_law_L46 Γ.2 x0 x1 x2) (hlv := fun s => [(0, .ref (G.2.1 x0)), (1, .int x1), (2, .int x2), (3, .int s.1), (4, .int s.2.1)]) (hsg := fun s => s.2.2) ?_
  rintro ⟨x3, x4, σ⟩ r h hb hx
  have hb : ∀ (x3 : Int32) (x4 : Int32) (σ : mm), r = .inl (x3, x4, σ) → WP l G yX12_law cX12_law 5 (some .int) d 0 0 Q 0 0 46 [(0, .ref (G.2.1 x0)), (1, .int x1), (2, .int x2), (3, .int x3), (4, .int x4)] [] Γ σ := fun x3 x4 σ e => hb (x3, x4, σ) e
  have hx0 : ∀ (x3 : Int32) (σ9 : mm), r = .inr (x3, σ9) → WP l G yX12_law cX12_law 5 (some .int) d 0 0 Q 0 0 83 [(3, .int x3)] [] Γ σ9 := fun x3 σ9 e => kx0 x3 σ9 (hx _ e)
  unfold fX12_law_L46 at h
  have h := un3_some h
  show WP l G yX12_law cX12_law 5 (some .int) d 0 0 Q 0 0 46 [(0, .ref (G.2.1 x0)), (1, .int x1), (2, .int x2), (3, .int x3), (4, .int x4)] [] Γ σ
  refine r_iload 4 dX12_law_46 rfl ?_
  refine r_aload_n 0 dX12_law_48 rfl ?_
  refine q_getR (e9 := (0, 4)) dX12_law_49 fd_X12_19 t0 rfl h (fun r1 tr1 h => ?_)
  refine r_getI dX12_law_52 fd_X12_238 tr1 ?_
  refine r_icmp_ge 83 dX12_law_55 (by decide) h (fun _ h => ?_) (fun _ h => ?_)
  · obtain rfl := Option.some.inj h
    refine r_pick [3] rfl ?_
    exact hx0 _ _ rfl
  · refine r_iload_n 1 dX12_law_58 rfl ?_
    refine r_iload 4 dX12_law_59 rfl ?_
    refine r_ishr dX12_law_61 ?_
    refine r_iconst (v := 1) dX12_law_62 (by decide) ?_
    refine r_iand dX12_law_63 ?_
    refine r_iconst (v := 1) dX12_law_64 (by decide) ?_
    refine r_icmp_ne 77 dX12_law_65 (by decide) h (fun _ h => ?_) (fun _ h => ?_)
    · exact tX12_law_b77 hdd σ x0 x1 x2 x3 x4 t0 _ h hb hx0
    · refine r_aload_n 0 dX12_law_68 rfl ?_
      refine r_iload 4 dX12_law_69 rfl ?_
      refine r_iload_n 2 dX12_law_71 rfl ?_
      refine r_iload_n 3 dX12_law_72 rfl ?_
      obtain ⟨v2, τ3, ev2, h⟩ := bd2_some h
      refine q_cVI [.int x4, .int x2, .int x3] dX12_law_73 cv_X12_335 (ci := 11) rfl rfl t0 rfl rfl (Nat.le_of_ble_eq_true rfl) (by omega) (kX12_leastGrace (d - 1) (by omega) x0 x4 x2 x3 t0 (v2, τ3) ev2) ?_
      refine r_istore_n (lv' := [(3, .int v2), (0, .ref (G.2.1 x0)), (1, .int x1), (2, .int x2), (4, .int x4)]) dX12_law_76 (by decide) rfl ?_
      refine r_pick [1, 2, 3, 0, 4] rfl ?_
      exact tX12_law_b77 hdd τ3 x0 x1 x2 v2 x4 t0 _ h hb hx0
theorem tX12_law_b94 {l : Launch} {G : gg} {Γ : ly} {d : Nat} {Q : Option Value → ly → mm → Prop} (hdd : 4 ≤ d) (σ : mm)  (s0 : Int32)   (r : (Int32 × mm)) (h : fX12_law_b94 Γ.2 σ s0 = some r) (hQ : Q (some (.int r.1)) Γ r.2) : WP l G yX12_law cX12_law 5 (some .int) d 0 0 Q 0 0 94 [] [.int s0] Γ σ := by
  unfold fX12_law_b94 at h
  obtain rfl := Option.some.inj h
  exact r_ireturn dX12_law_94 rfl hQ (Nat.le_refl _) (Nat.le_refl _)
theorem kX12_law {l : Launch} {G : gg} {Γ : ly} {σ : mm} (d : Nat) (hdd : 4 ≤ d) (x0 : Nat) (x1 : Int32) (x2 : Int32) (t0 : tyOK Γ (0, 11) x0) (r : (Int32 × mm)) (h : fX12_law Γ.2 σ x0 x1 x2 = some r) : CT l G yX12_law cX12_law 5 (some .int) d 0 0 [.ref (G.2.1 x0), .int x1, .int x2] Γ σ (PP (some (.int r.1)) Γ r.2) := by
  refine CT.ofWP (by decide) (Nat.le_of_ble_eq_true rfl) ?_
  have hQ : PP (some (.int r.1)) Γ r.2 (some (.int r.1)) Γ r.2 := PP.self
  generalize PP (some (.int r.1)) Γ r.2 = Q at hQ ⊢
  show WP l G yX12_law cX12_law 5 (some .int) d 0 0 Q 0 0 0 [(0, .ref (G.2.1 x0)), (1, .int x1), (2, .int x2)] [] Γ σ
  unfold fX12_law at h
  refine r_iload_n 1 dX12_law_0 rfl ?_
  refine r_if_lt 39 dX12_law_1 (by decide) h (fun _ h => ?_) (fun _ h => ?_)
  · refine r_pick [] rfl ?_
    exact tX12_law_b39 hdd σ  _ h hQ
  · refine r_iload_n 1 dX12_law_4 rfl ?_
    refine r_iconst (v := 1) dX12_law_5 (by decide) ?_
    refine r_aload_n 0 dX12_law_6 rfl ?_
    refine q_getR (e9 := (0, 4)) dX12_law_7 fd_X12_19 t0 rfl h (fun r1 tr1 h => ?_)
    refine r_getI dX12_law_10 fd_X12_238 tr1 ?_
    refine r_ishl dX12_law_13 ?_
    refine r_icmp_ge 39 dX12_law_14 (by decide) h (fun _ h => ?_) (fun _ h => ?_)
    · refine r_pick [] rfl ?_
      exact tX12_law_b39 hdd σ  _ h hQ
    · refine r_iconst (v := 1) dX12_law_17 (by decide) ?_
      refine r_bipush (v := 60) dX12_law_18 (by decide) ?_
      refine r_iload_n 2 dX12_law_20 rfl ?_
      obtain ⟨v2, ev2, h⟩ := bd0_some h
      refine q_cSI [.int (1 : Int32), .int (60 : Int32), .int x2] dX12_law_21 cs_X12_268 rfl rfl (Nat.le_of_ble_eq_true rfl) (by omega) (kX12_isFrom (d - 1) (by omega) (1 : Int32) (60 : Int32) x2  v2 ev2) ?_
      refine r_if_eq 39 dX12_law_24 (by decide) h (fun _ h => ?_) (fun _ h => ?_)
      · refine r_pick [] rfl ?_
        exact tX12_law_b39 hdd σ  _ h hQ
      · refine r_iload_n 1 dX12_law_27 rfl ?_
        refine r_aload_n 0 dX12_law_28 rfl ?_
        refine q_getR (e9 := (0, 3)) dX12_law_29 fd_X12_40 t0 rfl h (fun r3 tr3 h => ?_)
        refine r_getI dX12_law_32 fd_X12_225 tr3 ?_
        refine r_iand dX12_law_35 ?_
        refine r_if_eq 41 dX12_law_36 (by decide) h (fun _ h => ?_) (fun _ h => ?_)
        · refine r_iconst (v := 1) dX12_law_41 (by decide) ?_
          refine r_istore_n (lv' := [(3, .int (1 : Int32)), (0, .ref (G.2.1 x0)), (1, .int x1), (2, .int x2)]) dX12_law_42 (by decide) rfl ?_
          refine r_iconst (v := 0) dX12_law_43 (by decide) ?_
          refine r_istore (lv' := [(4, .int (0 : Int32)), (3, .int (1 : Int32)), (0, .ref (G.2.1 x0)), (1, .int x1), (2, .int x2)]) dX12_law_44 (by decide) rfl ?_
          obtain ⟨b4, eb4, h⟩ := bd0_some h
          refine r_pick [2, 3, 4, 1, 0] rfl ?_
          refine sX12_law_L46 hdd x0 x1 x2 t0 (K := fun b => b = b4) ?_ 1000 ((1 : Int32), (0 : Int32), σ) b4 eb4 rfl
          rintro v5 τ6 rfl
          have h := un2_some h
          refine r_iload_n 0 dX12_law_83 rfl ?_
          refine r_bipush (v := 9) dX12_law_84 (by decide) ?_
          refine r_icmp_gt 93 dX12_law_86 (by decide) h (fun _ h => ?_) (fun _ h => ?_)
          · refine r_iconst (v := -1) dX12_law_93 (by decide) ?_
            refine r_pick [] rfl ?_
            exact tX12_law_b94 hdd τ6 (-1 : Int32)  _ h hQ
          · refine r_iload_n 0 dX12_law_89 rfl ?_
            refine r_goto 94 dX12_law_90 (by decide) ?_
            refine r_pick [] rfl ?_
            exact tX12_law_b94 hdd τ6 v5  _ h hQ
        · refine r_pick [] rfl ?_
          exact tX12_law_b39 hdd σ  _ h hQ
