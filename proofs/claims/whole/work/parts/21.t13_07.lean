/-! the walks, 7 -/
theorem tX13_soonest_b55 {l : Launch} {G : gg} {Γ : ly} {d : Nat} {Q : Option Value → ly → mm → Prop} (hdd : 7 ≤ d) (σ : mm) (x0 : Nat) (x1 : Int32) (x2 : Int32)  (t0 : tyOK Γ (0, 12) x0)  (r : ((Int32 × Int32) ⊕ Int32)) (h : fX13_soonest_b55 Γ.2 σ x0 x1 x2 = some r) (hb : ∀ (x1 : Int32) (x2 : Int32), r = .inl (x1, x2) → WP l G yX13_soonest cX13_soonest 3 (some .int) d 0 0 Q 0 0 13 [(0, .ref (G.2.1 x0)), (1, .int x1), (2, .int x2)] [] Γ σ) (hx0 : ∀ (x1 : Int32), r = .inr x1 → WP l G yX13_soonest cX13_soonest 3 (some .int) d 0 0 Q 0 0 61 [(1, .int x1)] [] Γ σ) : WP l G yX13_soonest cX13_soonest 3 (some .int) d 0 0 Q 0 0 55 [(0, .ref (G.2.1 x0)), (1, .int x1), (2, .int x2)] [] Γ σ := by
  unfold fX13_soonest_b55 at h
  refine q_iinc (v := 1) 2 (fun v1 => [(2, .int v1), (0, .ref (G.2.1 x0)), (1, .int x1)]) dX13_soonest_55 rfl (by decide) (by decide) (fun _ => rfl) h (fun v1 h => ?_)
  refine r_goto 13 dX13_soonest_58 (by decide) ?_
  obtain rfl := Option.some.inj h
  refine r_pick [1, 2, 0] rfl ?_
  exact hb _ _ rfl
theorem tX13_soonest_b53 {l : Launch} {G : gg} {Γ : ly} {d : Nat} {Q : Option Value → ly → mm → Prop} (hdd : 7 ≤ d) (σ : mm) (x0 : Nat) (x2 : Int32)  (t0 : tyOK Γ (0, 12) x0)  (r : ((Int32 × Int32) ⊕ Int32)) (h : fX13_soonest_b53 Γ.2 σ x0 x2 = some r) (hb : ∀ (x1 : Int32) (x2 : Int32), r = .inl (x1, x2) → WP l G yX13_soonest cX13_soonest 3 (some .int) d 0 0 Q 0 0 13 [(0, .ref (G.2.1 x0)), (1, .int x1), (2, .int x2)] [] Γ σ) (hx0 : ∀ (x1 : Int32), r = .inr x1 → WP l G yX13_soonest cX13_soonest 3 (some .int) d 0 0 Q 0 0 61 [(1, .int x1)] [] Γ σ) : WP l G yX13_soonest cX13_soonest 3 (some .int) d 0 0 Q 0 0 53 [(0, .ref (G.2.1 x0)), (2, .int x2)] [] Γ σ := by
  unfold fX13_soonest_b53 at h
  refine r_iload_n 1 dX13_soonest_53 rfl ?_
  refine r_istore_n (lv' := [(1, .int x2), (0, .ref (G.2.1 x0)), (2, .int x2)]) dX13_soonest_54 (by decide) rfl ?_
  refine r_pick [1, 0, 2] rfl ?_
  exact tX13_soonest_b55 hdd σ x0 x2 x2 t0 _ h hb hx0
theorem sX13_soonest_L13 {l : Launch} {G : gg} {Γ : ly} {d : Nat} {Q : Option Value → ly → mm → Prop} (hdd : 7 ≤ d) (σ : mm) (x0 : Nat) (t0 : tyOK Γ (0, 12) x0) {K : Int32 → Prop} (kx0 : ∀ (x1 : Int32), K x1 → WP l G yX13_soonest cX13_soonest 3 (some .int) d 0 0 Q 0 0 61 [(1, .int x1)] [] Γ σ) : ∀ (N : Nat) (s : (Int32 × Int32)) (b : Int32), loopN (fX13_soonest_L13 Γ.2 σ x0) N s = some b → K b → WP l G yX13_soonest cX13_soonest 3 (some .int) d 0 0 Q 0 0 13 [(0, .ref (G.2.1 x0)), (1, .int s.1), (2, .int s.2)] [] Γ σ := by
  refine r_loop (f := fX13_soonest_L13 Γ.2 σ x0) (hlv := fun s => [(0, .ref (G.2.1 x0)), (1, .int s.1), (2, .int s.2)]) (hsg := fun s => σ) ?_
  rintro ⟨x1, x2⟩ r h hb hx
  have hb : ∀ (x1 : Int32) (x2 : Int32), r = .inl (x1, x2) → WP l G yX13_soonest cX13_soonest 3 (some .int) d 0 0 Q 0 0 13 [(0, .ref (G.2.1 x0)), (1, .int x1), (2, .int x2)] [] Γ σ := fun x1 x2 e => hb (x1, x2) e
  have hx0 : ∀ (x1 : Int32), r = .inr x1 → WP l G yX13_soonest cX13_soonest 3 (some .int) d 0 0 Q 0 0 61 [(1, .int x1)] [] Γ σ := fun x1 e => kx0 x1 (hx _ e)
  unfold fX13_soonest_L13 at h
  have h := un2_some h
  show WP l G yX13_soonest cX13_soonest 3 (some .int) d 0 0 Q 0 0 13 [(0, .ref (G.2.1 x0)), (1, .int x1), (2, .int x2)] [] Γ σ
  refine r_iload_n 2 dX13_soonest_13 rfl ?_
  refine r_aload_n 0 dX13_soonest_14 rfl ?_
  refine q_getR (e9 := (1, 0)) dX13_soonest_15 fd_X13_98 t0 rfl h (fun r1 tr1 h => ?_)
  refine r_iconst (v := 1) dX13_soonest_18 (by decide) ?_
  refine q_iald dX13_soonest_19 tr1 h (fun v2 h => ?_)
  refine r_icmp_ge 61 dX13_soonest_20 (by decide) h (fun _ h => ?_) (fun _ h => ?_)
  · obtain rfl := Option.some.inj h
    refine r_pick [1] rfl ?_
    exact hx0 _ rfl
  · refine r_aload_n 0 dX13_soonest_23 rfl ?_
    refine q_getR (e9 := (1, 0)) dX13_soonest_24 fd_X13_127 t0 rfl h (fun r3 tr3 h => ?_)
    refine r_iload_n 2 dX13_soonest_27 rfl ?_
    refine q_iald dX13_soonest_28 tr3 h (fun v4 h => ?_)
    refine r_iconst (v := -1) dX13_soonest_29 (by decide) ?_
    refine r_icmp_eq 55 dX13_soonest_30 (by decide) h (fun _ h => ?_) (fun _ h => ?_)
    · exact tX13_soonest_b55 hdd σ x0 x1 x2 t0 _ h hb hx0
    · refine r_iload_n 1 dX13_soonest_33 rfl ?_
      refine r_iconst (v := -1) dX13_soonest_34 (by decide) ?_
      refine r_icmp_eq 53 dX13_soonest_35 (by decide) h (fun _ h => ?_) (fun _ h => ?_)
      · refine r_pick [0, 2] rfl ?_
        exact tX13_soonest_b53 hdd σ x0 x2 t0 _ h hb hx0
      · refine r_aload_n 0 dX13_soonest_38 rfl ?_
        refine q_getR (e9 := (1, 0)) dX13_soonest_39 fd_X13_127 t0 rfl h (fun r5 tr5 h => ?_)
        refine r_iload_n 2 dX13_soonest_42 rfl ?_
        refine q_iald dX13_soonest_43 tr5 h (fun v6 h => ?_)
        refine r_aload_n 0 dX13_soonest_44 rfl ?_
        refine q_getR (e9 := (1, 0)) dX13_soonest_45 fd_X13_127 t0 rfl h (fun r7 tr7 h => ?_)
        refine r_iload_n 1 dX13_soonest_48 rfl ?_
        refine q_iald dX13_soonest_49 tr7 h (fun v8 h => ?_)
        refine r_icmp_ge 55 dX13_soonest_50 (by decide) h (fun _ h => ?_) (fun _ h => ?_)
        · exact tX13_soonest_b55 hdd σ x0 x1 x2 t0 _ h hb hx0
        · refine r_pick [0, 2] rfl ?_
          exact tX13_soonest_b53 hdd σ x0 x2 t0 _ h hb hx0
theorem kX13_soonest {l : Launch} {G : gg} {Γ : ly} {σ : mm} (d : Nat) (hdd : 7 ≤ d) (x0 : Nat) (t0 : tyOK Γ (0, 12) x0) (r : (Int32 × mm)) (h : fX13_soonest Γ.2 σ x0 = some r) : CT l G yX13_soonest cX13_soonest 3 (some .int) d 0 0 [.ref (G.2.1 x0)] Γ σ (PP (some (.int r.1)) Γ r.2) := by
  refine CT.ofWP (by decide) (Nat.le_of_ble_eq_true rfl) ?_
  have hQ : PP (some (.int r.1)) Γ r.2 (some (.int r.1)) Γ r.2 := PP.self
  generalize PP (some (.int r.1)) Γ r.2 = Q at hQ ⊢
  show WP l G yX13_soonest cX13_soonest 3 (some .int) d 0 0 Q 0 0 0 [(0, .ref (G.2.1 x0))] [] Γ σ
  unfold fX13_soonest at h
  refine r_aload_n 0 dX13_soonest_0 rfl ?_
  refine r_iconst (v := 0) dX13_soonest_1 (by decide) ?_
  refine q_putI dX13_soonest_2 fd_X13_1 t0 h (fun τ1 h => ?_)
  refine r_aload_n 0 dX13_soonest_5 rfl ?_
  obtain ⟨τ2, eτ2, h⟩ := bd0_some h
  refine q_cVV [] dX13_soonest_6 cv_X13_324 (ci := 12) rfl rfl t0 rfl rfl (Nat.le_of_ble_eq_true rfl) (by omega) (kX13_layLapses (d - 1) (by omega) x0 t0 τ2 eτ2) ?_
  refine r_iconst (v := -1) dX13_soonest_9 (by decide) ?_
  refine r_istore_n (lv' := [(1, .int (-1 : Int32)), (0, .ref (G.2.1 x0))]) dX13_soonest_10 (by decide) rfl ?_
  refine r_iconst (v := 0) dX13_soonest_11 (by decide) ?_
  refine r_istore_n (lv' := [(2, .int (0 : Int32)), (1, .int (-1 : Int32)), (0, .ref (G.2.1 x0))]) dX13_soonest_12 (by decide) rfl ?_
  obtain ⟨b3, eb3, h⟩ := bd0_some h
  refine r_pick [2, 1, 0] rfl ?_
  refine sX13_soonest_L13 hdd τ2 x0 t0 (K := fun b => b = b3) ?_ 1000 ((-1 : Int32), (0 : Int32)) b3 eb3 rfl
  rintro v4 rfl
  refine r_iload_n 0 dX13_soonest_61 rfl ?_
  obtain rfl := Option.some.inj h
  exact r_ireturn dX13_soonest_62 rfl hQ (Nat.le_refl _) (Nat.le_refl _)
theorem tX13_sleeper_b53 {l : Launch} {G : gg} {Γ : ly} {d : Nat} {Q : Option Value → ly → mm → Prop} (hdd : 3 ≤ d) (σ : mm)  (s0 : Int32)   (r : Int32) (h : fX13_sleeper_b53 Γ.2 σ s0 = some r) (hQ : Q (some (.int r)) Γ σ) : WP l G yX13_sleeper cX13_sleeper 3 (some .int) d 0 0 Q 0 0 53 [] [.int s0] Γ σ := by
  unfold fX13_sleeper_b53 at h
  obtain rfl := Option.some.inj h
  exact r_ireturn dX13_sleeper_53 rfl hQ (Nat.le_refl _) (Nat.le_refl _)
theorem kX13_sleeper {l : Launch} {G : gg} {Γ : ly} {σ : mm} (d : Nat) (hdd : 3 ≤ d) (x0 : Nat) (x1 : Int32) (x2 : Int32) (t0 : tyOK Γ (0, 12) x0) (r : Int32) (h : fX13_sleeper Γ.2 σ x0 x1 x2 = some r) : CT l G yX13_sleeper cX13_sleeper 3 (some .int) d 0 0 [.ref (G.2.1 x0), .int x1, .int x2] Γ σ (PP (some (.int r)) Γ σ) := by
  refine CT.ofWP (by decide) (Nat.le_of_ble_eq_true rfl) ?_
  have hQ : PP (some (.int r)) Γ σ (some (.int r)) Γ σ := PP.self
  generalize PP (some (.int r)) Γ σ = Q at hQ ⊢
  show WP l G yX13_sleeper cX13_sleeper 3 (some .int) d 0 0 Q 0 0 0 [(0, .ref (G.2.1 x0)), (1, .int x1), (2, .int x2)] [] Γ σ
  unfold fX13_sleeper at h
  refine r_aload_n 0 dX13_sleeper_0 rfl ?_
  refine r_aload_n 0 dX13_sleeper_1 rfl ?_
  refine q_getR (e9 := (1, 0)) dX13_sleeper_2 fd_X13_98 t0 rfl h (fun r1 tr1 h => ?_)
  refine r_bipush (v := 56) dX13_sleeper_5 (by decide) ?_
  refine r_iload_n 1 dX13_sleeper_7 rfl ?_
  refine r_iadd dX13_sleeper_8 ?_
  refine q_iald dX13_sleeper_9 tr1 h (fun v2 h => ?_)
  refine r_iload_n 2 dX13_sleeper_10 rfl ?_
  obtain ⟨v3, ev3, h⟩ := bd0_some h
  refine q_cVI [.int v2, .int x2] dX13_sleeper_11 cv_X13_237 (ci := 12) rfl rfl t0 rfl rfl (Nat.le_of_ble_eq_true rfl) (by omega) (kX13_fondAt (d - 1) (by omega) x0 v2 x2 t0 v3 ev3) ?_
  refine r_aload_n 0 dX13_sleeper_14 rfl ?_
  refine q_getR (e9 := (1, 0)) dX13_sleeper_15 fd_X13_98 t0 rfl h (fun r4 tr4 h => ?_)
  refine r_iconst (v := 4) dX13_sleeper_18 (by decide) ?_
  refine q_iald dX13_sleeper_19 tr4 h (fun v5 h => ?_)
  refine r_icmp_lt 25 dX13_sleeper_20 (by decide) h (fun _ h => ?_) (fun _ h => ?_)
  · refine r_aload_n 0 dX13_sleeper_25 rfl ?_
    refine r_aload_n 0 dX13_sleeper_26 rfl ?_
    refine q_getR (e9 := (1, 0)) dX13_sleeper_27 fd_X13_98 t0 rfl h (fun r6 tr6 h => ?_)
    refine r_bipush (v := 60) dX13_sleeper_30 (by decide) ?_
    refine r_iload_n 1 dX13_sleeper_32 rfl ?_
    refine r_iadd dX13_sleeper_33 ?_
    refine q_iald dX13_sleeper_34 tr6 h (fun v7 h => ?_)
    refine r_iload_n 2 dX13_sleeper_35 rfl ?_
    obtain ⟨v8, ev8, h⟩ := bd0_some h
    refine q_cVI [.int v7, .int x2] dX13_sleeper_36 cv_X13_237 (ci := 12) rfl rfl t0 rfl rfl (Nat.le_of_ble_eq_true rfl) (by omega) (kX13_fondAt (d - 1) (by omega) x0 v7 x2 t0 v8 ev8) ?_
    refine r_aload_n 0 dX13_sleeper_39 rfl ?_
    refine q_getR (e9 := (1, 0)) dX13_sleeper_40 fd_X13_98 t0 rfl h (fun r9 tr9 h => ?_)
    refine r_iconst (v := 4) dX13_sleeper_43 (by decide) ?_
    refine q_iald dX13_sleeper_44 tr9 h (fun v10 h => ?_)
    refine r_icmp_lt 52 dX13_sleeper_45 (by decide) h (fun _ h => ?_) (fun _ h => ?_)
    · refine r_iconst (v := -1) dX13_sleeper_52 (by decide) ?_
      refine r_pick [] rfl ?_
      exact tX13_sleeper_b53 hdd σ (-1 : Int32)  _ h hQ
    · refine r_iconst (v := 1) dX13_sleeper_48 (by decide) ?_
      refine r_goto 53 dX13_sleeper_49 (by decide) ?_
      refine r_pick [] rfl ?_
      exact tX13_sleeper_b53 hdd σ (1 : Int32)  _ h hQ
  · refine r_iconst (v := 0) dX13_sleeper_23 (by decide) ?_
    obtain rfl := Option.some.inj h
    exact r_ireturn dX13_sleeper_24 rfl hQ (Nat.le_refl _) (Nat.le_refl _)
theorem tX13_isTurned_b39 {l : Launch} {G : gg} {Γ : ly} {d : Nat} {Q : Option Value → ly → mm → Prop} (hdd : 4 ≤ d) (σ : mm)  (s0 : Int32)   (r : Int32) (h : fX13_isTurned_b39 Γ.2 σ s0 = some r) (hQ : Q (some (.int r)) Γ σ) : WP l G yX13_isTurned cX13_isTurned 3 (some .boolean) d 0 0 Q 0 0 39 [] [.int s0] Γ σ := by
  unfold fX13_isTurned_b39 at h
  obtain ⟨hbz, h⟩ := rZ_some h
  obtain rfl := Option.some.inj h
  exact r_zreturn dX13_isTurned_39 rfl hbz hQ (Nat.le_refl _) (Nat.le_refl _)
theorem tX13_isTurned_b34 {l : Launch} {G : gg} {Γ : ly} {d : Nat} {Q : Option Value → ly → mm → Prop} (hdd : 4 ≤ d) (σ : mm)     (r : Int32) (h : fX13_isTurned_b34 Γ.2 σ  = some r) (hQ : Q (some (.int r)) Γ σ) : WP l G yX13_isTurned cX13_isTurned 3 (some .boolean) d 0 0 Q 0 0 34 [] [] Γ σ := by
  unfold fX13_isTurned_b34 at h
  refine r_iconst (v := 1) dX13_isTurned_34 (by decide) ?_
  refine r_goto 39 dX13_isTurned_35 (by decide) ?_
  exact tX13_isTurned_b39 hdd σ (1 : Int32)  _ h hQ
theorem kX13_isTurned {l : Launch} {G : gg} {Γ : ly} {σ : mm} (d : Nat) (hdd : 4 ≤ d) (x0 : Nat) (x1 : Int32) (x2 : Int32) (t0 : tyOK Γ (0, 12) x0) (r : Int32) (h : fX13_isTurned Γ.2 σ x0 x1 x2 = some r) : CT l G yX13_isTurned cX13_isTurned 3 (some .boolean) d 0 0 [.ref (G.2.1 x0), .int x1, .int x2] Γ σ (PP (some (.int r)) Γ σ) := by
  refine CT.ofWP (by decide) (Nat.le_of_ble_eq_true rfl) ?_
  have hQ : PP (some (.int r)) Γ σ (some (.int r)) Γ σ := PP.self
  generalize PP (some (.int r)) Γ σ = Q at hQ ⊢
  show WP l G yX13_isTurned cX13_isTurned 3 (some .boolean) d 0 0 Q 0 0 0 [(0, .ref (G.2.1 x0)), (1, .int x1), (2, .int x2)] [] Γ σ
  unfold fX13_isTurned at h
  refine r_aload_n 0 dX13_isTurned_0 rfl ?_
  refine r_aload_n 0 dX13_isTurned_1 rfl ?_
  refine q_getR (e9 := (1, 0)) dX13_isTurned_2 fd_X13_98 t0 rfl h (fun r1 tr1 h => ?_)
  refine r_bipush (v := 56) dX13_isTurned_5 (by decide) ?_
  refine r_iload_n 1 dX13_isTurned_7 rfl ?_
  refine r_iadd dX13_isTurned_8 ?_
  refine q_iald dX13_isTurned_9 tr1 h (fun v2 h => ?_)
  refine r_iload_n 2 dX13_isTurned_10 rfl ?_
  obtain ⟨v3, ev3, h⟩ := bd0_some h
  refine q_cVI [.int v2, .int x2] dX13_isTurned_11 cv_X13_255 (ci := 12) rfl rfl t0 rfl rfl (Nat.le_of_ble_eq_true rfl) (by omega) (kX13_isWilling (d - 1) (by omega) x0 v2 x2 t0 v3 ev3) ?_
  refine r_if_ne 34 dX13_isTurned_14 (by decide) h (fun _ h => ?_) (fun _ h => ?_)
  · refine r_pick [] rfl ?_
    exact tX13_isTurned_b34 hdd σ  _ h hQ
  · refine r_aload_n 0 dX13_isTurned_17 rfl ?_
    refine r_aload_n 0 dX13_isTurned_18 rfl ?_
    refine q_getR (e9 := (1, 0)) dX13_isTurned_19 fd_X13_98 t0 rfl h (fun r4 tr4 h => ?_)
    refine r_bipush (v := 60) dX13_isTurned_22 (by decide) ?_
    refine r_iload_n 1 dX13_isTurned_24 rfl ?_
    refine r_iadd dX13_isTurned_25 ?_
    refine q_iald dX13_isTurned_26 tr4 h (fun v5 h => ?_)
    refine r_iload_n 2 dX13_isTurned_27 rfl ?_
    obtain ⟨v6, ev6, h⟩ := bd0_some h
    refine q_cVI [.int v5, .int x2] dX13_isTurned_28 cv_X13_255 (ci := 12) rfl rfl t0 rfl rfl (Nat.le_of_ble_eq_true rfl) (by omega) (kX13_isWilling (d - 1) (by omega) x0 v5 x2 t0 v6 ev6) ?_
    refine r_if_eq 38 dX13_isTurned_31 (by decide) h (fun _ h => ?_) (fun _ h => ?_)
    · refine r_iconst (v := 0) dX13_isTurned_38 (by decide) ?_
      refine r_pick [] rfl ?_
      exact tX13_isTurned_b39 hdd σ (0 : Int32)  _ h hQ
    · refine r_pick [] rfl ?_
      exact tX13_isTurned_b34 hdd σ  _ h hQ
theorem kX13_wakesAt {l : Launch} {G : gg} {Γ : ly} {σ : mm} (d : Nat) (hdd : 0 ≤ d) (x0 : Nat) (x1 : Int32) (x2 : Int32) (t0 : tyOK Γ (0, 12) x0) (r : Int32) (h : fX13_wakesAt Γ.2 σ x0 x1 x2 = some r) : CT l G yX13_wakesAt cX13_wakesAt 3 (some .int) d 0 0 [.ref (G.2.1 x0), .int x1, .int x2] Γ σ (PP (some (.int r)) Γ σ) := by
  refine CT.ofWP (by decide) (Nat.le_of_ble_eq_true rfl) ?_
  have hQ : PP (some (.int r)) Γ σ (some (.int r)) Γ σ := PP.self
  generalize PP (some (.int r)) Γ σ = Q at hQ ⊢
  show WP l G yX13_wakesAt cX13_wakesAt 3 (some .int) d 0 0 Q 0 0 0 [(0, .ref (G.2.1 x0)), (1, .int x1), (2, .int x2)] [] Γ σ
  unfold fX13_wakesAt at h
  refine r_aload_n 0 dX13_wakesAt_0 rfl ?_
  refine q_getR (e9 := (1, 0)) dX13_wakesAt_1 fd_X13_130 t0 rfl h (fun r1 tr1 h => ?_)
  refine r_sipush (v := 261) dX13_wakesAt_4 (by decide) ?_
  refine r_iload_n 1 dX13_wakesAt_7 rfl ?_
  refine r_imul dX13_wakesAt_8 ?_
  refine r_iload_n 2 dX13_wakesAt_9 rfl ?_
  refine r_iadd dX13_wakesAt_10 ?_
  refine q_iald dX13_wakesAt_11 tr1 h (fun v2 h => ?_)
  obtain rfl := Option.some.inj h
  exact r_ireturn dX13_wakesAt_12 rfl hQ (Nat.le_refl _) (Nat.le_refl _)
theorem tX13_waits_b32 {l : Launch} {G : gg} {Γ : ly} {d : Nat} {Q : Option Value → ly → mm → Prop} (hdd : 1 ≤ d) (σ : mm)  (s0 : Int32)   (r : Int32) (h : fX13_waits_b32 Γ.2 σ s0 = some r) (hQ : Q (some (.int r)) Γ σ) : WP l G yX13_waits cX13_waits 3 (some .int) d 0 0 Q 0 0 32 [] [.int s0] Γ σ := by
  unfold fX13_waits_b32 at h
  obtain rfl := Option.some.inj h
  exact r_ireturn dX13_waits_32 rfl hQ (Nat.le_refl _) (Nat.le_refl _)
theorem kX13_waits {l : Launch} {G : gg} {Γ : ly} {σ : mm} (d : Nat) (hdd : 1 ≤ d) (x0 : Nat) (x1 : Int32) (x2 : Int32) (t0 : tyOK Γ (0, 12) x0) (r : Int32) (h : fX13_waits Γ.2 σ x0 x1 x2 = some r) : CT l G yX13_waits cX13_waits 3 (some .int) d 0 0 [.ref (G.2.1 x0), .int x1, .int x2] Γ σ (PP (some (.int r)) Γ σ) := by
  refine CT.ofWP (by decide) (Nat.le_of_ble_eq_true rfl) ?_
  have hQ : PP (some (.int r)) Γ σ (some (.int r)) Γ σ := PP.self
  generalize PP (some (.int r)) Γ σ = Q at hQ ⊢
  show WP l G yX13_waits cX13_waits 3 (some .int) d 0 0 Q 0 0 0 [(0, .ref (G.2.1 x0)), (1, .int x1), (2, .int x2)] [] Γ σ
  unfold fX13_waits at h
  refine r_iload_n 2 dX13_waits_0 rfl ?_
  refine r_iconst (v := 1) dX13_waits_1 (by decide) ?_
  refine r_iadd dX13_waits_2 ?_
  refine r_aload_n 0 dX13_waits_3 rfl ?_
  refine q_getR (e9 := (1, 0)) dX13_waits_4 fd_X13_98 t0 rfl h (fun r1 tr1 h => ?_)
  refine r_iconst (v := 3) dX13_waits_7 (by decide) ?_
  refine q_iald dX13_waits_8 tr1 h (fun v2 h => ?_)
  refine r_icmp_lt 18 dX13_waits_9 (by decide) h (fun _ h => ?_) (fun _ h => ?_)
  · refine r_aload_n 0 dX13_waits_18 rfl ?_
    refine r_iload_n 1 dX13_waits_19 rfl ?_
    refine r_iconst (v := 1) dX13_waits_20 (by decide) ?_
    refine r_iadd dX13_waits_21 ?_
    refine r_sipush (v := 251) dX13_waits_22 (by decide) ?_
    refine r_iload_n 2 dX13_waits_25 rfl ?_
    refine r_iadd dX13_waits_26 ?_
    refine r_iconst (v := 1) dX13_waits_27 (by decide) ?_
    refine r_iadd dX13_waits_28 ?_
    obtain ⟨v3, ev3, h⟩ := bd0_some h
    refine q_cVI [.int (x1 + (1 : Int32)), .int (((251 : Int32) + x2) + (1 : Int32))] dX13_waits_29 cv_X13_328 (ci := 12) rfl rfl t0 rfl rfl (Nat.le_of_ble_eq_true rfl) (by omega) (kX13_wakesAt (d - 1) (by omega) x0 (x1 + (1 : Int32)) (((251 : Int32) + x2) + (1 : Int32)) t0 v3 ev3) ?_
    refine r_pick [] rfl ?_
    exact tX13_waits_b32 hdd σ v3  _ h hQ
  · refine r_ldcw (v := 100000) dX13_waits_12 ki_X13_327 ?_
    refine r_goto 32 dX13_waits_15 (by decide) ?_
    refine r_pick [] rfl ?_
    exact tX13_waits_b32 hdd σ (100000 : Int32)  _ h hQ
theorem sX13_layWatch_L13 {l : Launch} {G : gg} {Γ : ly} {d : Nat} {Q : Option Value → ly → mm → Prop} (hdd : 5 ≤ d) (x0 : Nat) (x1 : Int32) (x2 : Int32) (x3 : Int32) (t0 : tyOK Γ (0, 12) x0) {K : mm → Prop} (kx0 : ∀ (σ9 : mm), K σ9 → WP l G yX13_layWatch cX13_layWatch 11 (none) d 0 0 Q 0 0 41 [(0, .ref (G.2.1 x0)), (1, .int x1), (2, .int x2), (3, .int x3)] [] Γ σ9) : ∀ (N : Nat) (s : (Int32 × mm)) (b : mm), loopN (fX13_layWatch_L13 Γ.2 x0 x1 x2 x3) N s = some b → K b → WP l G yX13_layWatch cX13_layWatch 11 (none) d 0 0 Q 0 0 13 [(0, .ref (G.2.1 x0)), (1, .int x1), (2, .int x2), (3, .int x3), (4, .int s.1)] [] Γ s.2 := by
  refine r_loop (f := fX13_layWatch_L13 Γ.2 x0 x1 x2 x3) (hlv := fun s => [(0, .ref (G.2.1 x0)), (1, .int x1), (2, .int x2), (3, .int x3), (4, .int s.1)]) (hsg := fun s => s.2) ?_
  rintro ⟨x4, σ⟩ r h hb hx
  have hb : ∀ (x4 : Int32) (σ : mm), r = .inl (x4, σ) → WP l G yX13_layWatch cX13_layWatch 11 (none) d 0 0 Q 0 0 13 [(0, .ref (G.2.1 x0)), (1, .int x1), (2, .int x2), (3, .int x3), (4, .int x4)] [] Γ σ := fun x4 σ e => hb (x4, σ) e
  have hx0 : ∀ (σ9 : mm), r = .inr σ9 → WP l G yX13_layWatch cX13_layWatch 11 (none) d 0 0 Q 0 0 41 [(0, .ref (G.2.1 x0)), (1, .int x1), (2, .int x2), (3, .int x3)] [] Γ σ9 := fun σ9 e => kx0 σ9 (hx _ e)
  unfold fX13_layWatch_L13 at h
  have h := un2_some h
  show WP l G yX13_layWatch cX13_layWatch 11 (none) d 0 0 Q 0 0 13 [(0, .ref (G.2.1 x0)), (1, .int x1), (2, .int x2), (3, .int x3), (4, .int x4)] [] Γ σ
  refine r_iload 4 dX13_layWatch_13 rfl ?_
  refine r_sipush (v := 260) dX13_layWatch_15 (by decide) ?_
  refine r_icmp_gt 41 dX13_layWatch_18 (by decide) h (fun _ h => ?_) (fun _ h => ?_)
  · obtain rfl := Option.some.inj h
    refine r_pick [0, 1, 2, 3] rfl ?_
    exact hx0 _ rfl
  · refine r_aload_n 0 dX13_layWatch_21 rfl ?_
    refine q_getR (e9 := (1, 0)) dX13_layWatch_22 fd_X13_130 t0 rfl h (fun r1 tr1 h => ?_)
    refine r_sipush (v := 261) dX13_layWatch_25 (by decide) ?_
    refine r_iload_n 2 dX13_layWatch_28 rfl ?_
    refine r_imul dX13_layWatch_29 ?_
    refine r_iload 4 dX13_layWatch_30 rfl ?_
    refine r_iadd dX13_layWatch_32 ?_
    refine r_iconst (v := 0) dX13_layWatch_33 (by decide) ?_
    refine q_iast dX13_layWatch_34 tr1 h (fun τ2 h => ?_)
    refine q_iinc (v := 1) 4 (fun v3 => [(4, .int v3), (0, .ref (G.2.1 x0)), (1, .int x1), (2, .int x2), (3, .int x3)]) dX13_layWatch_35 rfl (by decide) (by decide) (fun _ => rfl) h (fun v3 h => ?_)
    refine r_goto 13 dX13_layWatch_38 (by decide) ?_
    obtain rfl := Option.some.inj h
    refine r_pick [1, 2, 3, 4, 0] rfl ?_
    exact hb _ _ rfl
theorem tX13_layWatch_b119 {l : Launch} {G : gg} {Γ : ly} {d : Nat} {Q : Option Value → ly → mm → Prop} (hdd : 5 ≤ d) (σ : mm) (x0 : Nat) (x1 : Int32) (x3 : Int32) (x4 : Int32) (x5 : Int32) (x6 : Int32) (x7 : Int32) (s0 : Nat) (s1 : Int32) (s2 : Nat) (s3 : Int32) (s4 : Int32) (t0 : tyOK Γ (0, 12) x0) (u0 : tyOK Γ (1, 0) s0) (u2 : tyOK Γ (0, 12) s2) (r : ((Int32 × mm) ⊕ mm)) (h : fX13_layWatch_b119 Γ.2 σ x0 x1 x3 x4 x5 x6 x7 s0 s1 s2 s3 s4 = some r) (hb : ∀ (x7 : Int32) (σ9 : mm), r = .inl (x7, σ9) → WP l G yX13_layWatch cX13_layWatch 11 (none) d 0 0 Q 0 0 75 [(0, .ref (G.2.1 x0)), (1, .int x1), (3, .int x3), (4, .int x4), (5, .int x5), (6, .int x6), (7, .int x7)] [] Γ σ9) (hx0 : ∀ (σ9 : mm), r = .inr σ9 → WP l G yX13_layWatch cX13_layWatch 11 (none) d 0 0 Q 0 0 129 [(0, .ref (G.2.1 x0)), (1, .int x1), (3, .int x3), (4, .int x4), (5, .int x5)] [] Γ σ9) : WP l G yX13_layWatch cX13_layWatch 11 (none) d 0 0 Q 0 0 119 [(0, .ref (G.2.1 x0)), (1, .int x1), (3, .int x3), (4, .int x4), (5, .int x5), (6, .int x6), (7, .int x7)] [.int s4, .int s3, .ref (G.2.1 s2), .int s1, .ref (G.2.1 s0)] Γ σ := by
  unfold fX13_layWatch_b119 at h
  obtain ⟨v1, ev1, h⟩ := bd0_some h
  refine q_cVI [.int s3, .int s4] dX13_layWatch_119 cv_X13_328 (ci := 12) rfl rfl u2 rfl rfl (Nat.le_of_ble_eq_true rfl) (by omega) (kX13_wakesAt (d - 1) (by omega) s2 s3 s4 u2 v1 ev1) ?_
  refine q_iast dX13_layWatch_122 u0 h (fun τ2 h => ?_)
  refine q_iinc (v := 1) 6 (fun v3 => [(7, .int v3), (0, .ref (G.2.1 x0)), (1, .int x1), (3, .int x3), (4, .int x4), (5, .int x5), (6, .int x6)]) dX13_layWatch_123 rfl (by decide) (by decide) (fun _ => rfl) h (fun v3 h => ?_)
  refine r_goto 75 dX13_layWatch_126 (by decide) ?_
  obtain rfl := Option.some.inj h
  refine r_pick [1, 2, 3, 4, 5, 6, 0] rfl ?_
  exact hb _ _ rfl
theorem sX13_layWatch_L75 {l : Launch} {G : gg} {Γ : ly} {d : Nat} {Q : Option Value → ly → mm → Prop} (hdd : 5 ≤ d) (x0 : Nat) (x1 : Int32) (x3 : Int32) (x4 : Int32) (x5 : Int32) (x6 : Int32) (t0 : tyOK Γ (0, 12) x0) {K : mm → Prop} (kx0 : ∀ (σ9 : mm), K σ9 → WP l G yX13_layWatch cX13_layWatch 11 (none) d 0 0 Q 0 0 129 [(0, .ref (G.2.1 x0)), (1, .int x1), (3, .int x3), (4, .int x4), (5, .int x5)] [] Γ σ9) : ∀ (N : Nat) (s : (Int32 × mm)) (b : mm), loopN (fX13_layWatch_L75 Γ.2 x0 x1 x3 x4 x5 x6) N s = some b → K b → WP l G yX13_layWatch cX13_layWatch 11 (none) d 0 0 Q 0 0 75 [(0, .ref (G.2.1 x0)), (1, .int x1), (3, .int x3), (4, .int x4), (5, .int x5), (6, .int x6), (7, .int s.1)] [] Γ s.2 := by
  refine r_loop (f := fX13_layWatch_L75 Γ.2 x0 x1 x3 x4 x5 x6) (hlv := fun s => [(0, .ref (G.2.1 x0)), (1, .int x1), (3, .int x3), (4, .int x4), (5, .int x5), (6, .int x6), (7, .int s.1)]) (hsg := fun s => s.2) ?_
  rintro ⟨x7, σ⟩ r h hb hx
  have hb : ∀ (x7 : Int32) (σ : mm), r = .inl (x7, σ) → WP l G yX13_layWatch cX13_layWatch 11 (none) d 0 0 Q 0 0 75 [(0, .ref (G.2.1 x0)), (1, .int x1), (3, .int x3), (4, .int x4), (5, .int x5), (6, .int x6), (7, .int x7)] [] Γ σ := fun x7 σ e => hb (x7, σ) e
  have hx0 : ∀ (σ9 : mm), r = .inr σ9 → WP l G yX13_layWatch cX13_layWatch 11 (none) d 0 0 Q 0 0 129 [(0, .ref (G.2.1 x0)), (1, .int x1), (3, .int x3), (4, .int x4), (5, .int x5)] [] Γ σ9 := fun σ9 e => kx0 σ9 (hx _ e)
  unfold fX13_layWatch_L75 at h
  have h := un2_some h
  show WP l G yX13_layWatch cX13_layWatch 11 (none) d 0 0 Q 0 0 75 [(0, .ref (G.2.1 x0)), (1, .int x1), (3, .int x3), (4, .int x4), (5, .int x5), (6, .int x6), (7, .int x7)] [] Γ σ
  refine r_iload 6 dX13_layWatch_75 rfl ?_
  refine r_sipush (v := 250) dX13_layWatch_77 (by decide) ?_
  refine r_icmp_gt 129 dX13_layWatch_80 (by decide) h (fun _ h => ?_) (fun _ h => ?_)
  · obtain rfl := Option.some.inj h
    refine r_pick [0, 1, 2, 3, 4] rfl ?_
    exact hx0 _ rfl
  · refine r_aload_n 0 dX13_layWatch_83 rfl ?_
    refine q_getR (e9 := (1, 0)) dX13_layWatch_84 fd_X13_130 t0 rfl h (fun r1 tr1 h => ?_)
    refine r_sipush (v := 261) dX13_layWatch_87 (by decide) ?_
    refine r_iload 3 dX13_layWatch_90 rfl ?_
    refine r_imul dX13_layWatch_92 ?_
    refine r_iload 6 dX13_layWatch_93 rfl ?_
    refine r_iadd dX13_layWatch_95 ?_
    refine r_aload_n 0 dX13_layWatch_96 rfl ?_
    refine r_iload 3 dX13_layWatch_97 rfl ?_
    refine r_iconst (v := 1) dX13_layWatch_99 (by decide) ?_
    refine r_iadd dX13_layWatch_100 ?_
    refine r_iload 6 dX13_layWatch_101 rfl ?_
    refine r_iload 5 dX13_layWatch_103 rfl ?_
    refine r_icmp_le 116 dX13_layWatch_105 (by decide) h (fun _ h => ?_) (fun _ h => ?_)
    · refine r_sipush (v := 251) dX13_layWatch_116 (by decide) ?_
      exact tX13_layWatch_b119 hdd σ x0 x1 x3 x4 x5 x6 x7 r1 (((261 : Int32) * x4) + x7) x0 (x4 + (1 : Int32)) (251 : Int32) t0 tr1 t0 _ h hb hx0
    · refine r_iload 6 dX13_layWatch_108 rfl ?_
      refine r_iload 5 dX13_layWatch_110 rfl ?_
      refine r_isub dX13_layWatch_112 ?_
      refine r_goto 119 dX13_layWatch_113 (by decide) ?_
      exact tX13_layWatch_b119 hdd σ x0 x1 x3 x4 x5 x6 x7 r1 (((261 : Int32) * x4) + x7) x0 (x4 + (1 : Int32)) (x7 - x6) t0 tr1 t0 _ h hb hx0
theorem tX13_layWatch_b237 {l : Launch} {G : gg} {Γ : ly} {d : Nat} {Q : Option Value → ly → mm → Prop} (hdd : 5 ≤ d) (σ : mm) (x0 : Nat) (x1 : Int32) (x3 : Int32) (x4 : Int32) (x7 : Int32) (x8 : Int32) (x9 : Int32) (x10 : Int32) (s0 : Nat) (s1 : Int32) (s2 : Int32) (t0 : tyOK Γ (0, 12) x0) (u0 : tyOK Γ (1, 0) s0) (r : ((Int32 × mm) ⊕ mm)) (h : fX13_layWatch_b237 Γ.2 σ x0 x1 x3 x4 x7 x8 x9 x10 s0 s1 s2 = some r) (hb : ∀ (x10 : Int32) (σ9 : mm), r = .inl (x10, σ9) → WP l G yX13_layWatch cX13_layWatch 11 (none) d 0 0 Q 0 0 172 [(0, .ref (G.2.1 x0)), (1, .int x1), (3, .int x3), (4, .int x4), (7, .int x7), (8, .int x8), (9, .int x9), (10, .int x10)] [] Γ σ9) (hx0 : ∀ (σ9 : mm), r = .inr σ9 → WP l G yX13_layWatch cX13_layWatch 11 (none) d 0 0 Q 0 0 244 [(0, .ref (G.2.1 x0)), (1, .int x1), (3, .int x3), (4, .int x4)] [] Γ σ9) : WP l G yX13_layWatch cX13_layWatch 11 (none) d 0 0 Q 0 0 237 [(0, .ref (G.2.1 x0)), (1, .int x1), (3, .int x3), (4, .int x4), (7, .int x7), (8, .int x8), (9, .int x9), (10, .int x10)] [.int s2, .int s1, .ref (G.2.1 s0)] Γ σ := by
  unfold fX13_layWatch_b237 at h
  refine q_iast dX13_layWatch_237 u0 h (fun τ1 h => ?_)
  refine q_iinc (v := 1) 7 (fun v2 => [(10, .int v2), (0, .ref (G.2.1 x0)), (1, .int x1), (3, .int x3), (4, .int x4), (7, .int x7), (8, .int x8), (9, .int x9)]) dX13_layWatch_238 rfl (by decide) (by decide) (fun _ => rfl) h (fun v2 h => ?_)
  refine r_goto 172 dX13_layWatch_241 (by decide) ?_
  obtain rfl := Option.some.inj h
  refine r_pick [1, 2, 3, 4, 5, 6, 7, 0] rfl ?_
  exact hb _ _ rfl
theorem sX13_layWatch_L172 {l : Launch} {G : gg} {Γ : ly} {d : Nat} {Q : Option Value → ly → mm → Prop} (hdd : 5 ≤ d) (x0 : Nat) (x1 : Int32) (x3 : Int32) (x4 : Int32) (x7 : Int32) (x8 : Int32) (x9 : Int32) (t0 : tyOK Γ (0, 12) x0) {K : mm → Prop} (kx0 : ∀ (σ9 : mm), K σ9 → WP l G yX13_layWatch cX13_layWatch 11 (none) d 0 0 Q 0 0 244 [(0, .ref (G.2.1 x0)), (1, .int x1), (3, .int x3), (4, .int x4)] [] Γ σ9) : ∀ (N : Nat) (s : (Int32 × mm)) (b : mm), loopN (fX13_layWatch_L172 Γ.2 x0 x1 x3 x4 x7 x8 x9) N s = some b → K b → WP l G yX13_layWatch cX13_layWatch 11 (none) d 0 0 Q 0 0 172 [(0, .ref (G.2.1 x0)), (1, .int x1), (3, .int x3), (4, .int x4), (7, .int x7), (8, .int x8), (9, .int x9), (10, .int s.1)] [] Γ s.2 := by
  refine r_loop (f := fX13_layWatch_L172 Γ.2 x0 x1 x3 x4 x7 x8 x9) (hlv := fun s => [(0, .ref (G.2.1 x0)), (1, .int x1), (3, .int x3), (4, .int x4), (7, .int x7), (8, .int x8), (9, .int x9), (10, .int s.1)]) (hsg := fun s => s.2) ?_
  rintro ⟨x10, σ⟩ r h hb hx
  have hb : ∀ (x10 : Int32) (σ : mm), r = .inl (x10, σ) → WP l G yX13_layWatch cX13_layWatch 11 (none) d 0 0 Q 0 0 172 [(0, .ref (G.2.1 x0)), (1, .int x1), (3, .int x3), (4, .int x4), (7, .int x7), (8, .int x8), (9, .int x9), (10, .int x10)] [] Γ σ := fun x10 σ e => hb (x10, σ) e
  have hx0 : ∀ (σ9 : mm), r = .inr σ9 → WP l G yX13_layWatch cX13_layWatch 11 (none) d 0 0 Q 0 0 244 [(0, .ref (G.2.1 x0)), (1, .int x1), (3, .int x3), (4, .int x4)] [] Γ σ9 := fun σ9 e => kx0 σ9 (hx _ e)
  unfold fX13_layWatch_L172 at h
  have h := un2_some h
  show WP l G yX13_layWatch cX13_layWatch 11 (none) d 0 0 Q 0 0 172 [(0, .ref (G.2.1 x0)), (1, .int x1), (3, .int x3), (4, .int x4), (7, .int x7), (8, .int x8), (9, .int x9), (10, .int x10)] [] Γ σ
  refine r_iload 7 dX13_layWatch_172 rfl ?_
  refine r_bipush (v := 9) dX13_layWatch_174 (by decide) ?_
  refine r_icmp_ge 244 dX13_layWatch_176 (by decide) h (fun _ h => ?_) (fun _ h => ?_)
  · obtain rfl := Option.some.inj h
    refine r_pick [0, 1, 2, 3] rfl ?_
    exact hx0 _ rfl
  · refine r_aload_n 0 dX13_layWatch_179 rfl ?_
    refine q_getR (e9 := (1, 0)) dX13_layWatch_180 fd_X13_130 t0 rfl h (fun r1 tr1 h => ?_)
    refine r_sipush (v := 261) dX13_layWatch_183 (by decide) ?_
    refine r_iload 3 dX13_layWatch_186 rfl ?_
    refine r_imul dX13_layWatch_188 ?_
    refine r_sipush (v := 251) dX13_layWatch_189 (by decide) ?_
    refine r_iadd dX13_layWatch_192 ?_
    refine r_iload 7 dX13_layWatch_193 rfl ?_
    refine r_iadd dX13_layWatch_195 ?_
    refine r_iload 4 dX13_layWatch_196 rfl ?_
    refine r_if_eq 208 dX13_layWatch_198 (by decide) h (fun _ h => ?_) (fun _ h => ?_)
    · refine r_iload 5 dX13_layWatch_208 rfl ?_
      refine r_if_eq 229 dX13_layWatch_210 (by decide) h (fun _ h => ?_) (fun _ h => ?_)
      · refine r_aload_n 0 dX13_layWatch_229 rfl ?_
        refine r_iload 3 dX13_layWatch_230 rfl ?_
        refine r_iload 7 dX13_layWatch_232 rfl ?_
        obtain ⟨v2, ev2, h⟩ := bd0_some h
        refine q_cVI [.int x4, .int x10] dX13_layWatch_234 cv_X13_337 (ci := 12) rfl rfl t0 rfl rfl (Nat.le_of_ble_eq_true rfl) (by omega) (kX13_waits (d - 1) (by omega) x0 x4 x10 t0 v2 ev2) ?_
        exact tX13_layWatch_b237 hdd σ x0 x1 x3 x4 x7 x8 x9 x10 r1 ((((261 : Int32) * x4) + (251 : Int32)) + x10) v2 t0 tr1 _ h hb hx0
      · refine r_iload 6 dX13_layWatch_213 rfl ?_
        refine r_aload_n 0 dX13_layWatch_215 rfl ?_
        refine r_iload 3 dX13_layWatch_216 rfl ?_
        refine r_iload 7 dX13_layWatch_218 rfl ?_
        obtain ⟨v3, ev3, h⟩ := bd0_some h
        refine q_cVI [.int x4, .int x10] dX13_layWatch_220 cv_X13_337 (ci := 12) rfl rfl t0 rfl rfl (Nat.le_of_ble_eq_true rfl) (by omega) (kX13_waits (d - 1) (by omega) x0 x4 x10 t0 v3 ev3) ?_
        obtain ⟨v4, ev4, h⟩ := bd0_some h
        refine q_cSI [.int x9, .int v3] dX13_layWatch_223 cs_X13_227 rfl rfl (Nat.le_of_ble_eq_true rfl) (by omega) (kX13_least (d - 1) (by omega) x9 v3  v4 ev4) ?_
        refine r_goto 237 dX13_layWatch_226 (by decide) ?_
        exact tX13_layWatch_b237 hdd σ x0 x1 x3 x4 x7 x8 x9 x10 r1 ((((261 : Int32) * x4) + (251 : Int32)) + x10) v4 t0 tr1 _ h hb hx0
    · refine r_iload 6 dX13_layWatch_201 rfl ?_
      refine r_iconst (v := 1) dX13_layWatch_203 (by decide) ?_
      refine r_isub dX13_layWatch_204 ?_
      refine r_goto 237 dX13_layWatch_205 (by decide) ?_
      exact tX13_layWatch_b237 hdd σ x0 x1 x3 x4 x7 x8 x9 x10 r1 ((((261 : Int32) * x4) + (251 : Int32)) + x10) (x9 - (1 : Int32)) t0 tr1 _ h hb hx0
theorem tX13_layWatch_b154 {l : Launch} {G : gg} {Γ : ly} {d : Nat} {Q : Option Value → ly → mm → Prop} (hdd : 5 ≤ d) (σ : mm) (x0 : Nat) (x1 : Int32) (x3 : Int32) (x4 : Int32) (x7 : Int32) (s0 : Int32) (t0 : tyOK Γ (0, 12) x0)  (r : ((Int32 × mm) ⊕ mm)) (h : fX13_layWatch_b154 Γ.2 σ x0 x1 x3 x4 x7 s0 = some r) (hb : ∀ (x4 : Int32) (σ9 : mm), r = .inl (x4, σ9) → WP l G yX13_layWatch cX13_layWatch 11 (none) d 0 0 Q 0 0 46 [(0, .ref (G.2.1 x0)), (1, .int x1), (3, .int x3), (4, .int x4)] [] Γ σ9) (hx0 : ∀ (σ9 : mm), r = .inr σ9 → WP l G yX13_layWatch cX13_layWatch 11 (none) d 0 0 Q 0 0 250 [] [] Γ σ9) : WP l G yX13_layWatch cX13_layWatch 11 (none) d 0 0 Q 0 0 154 [(0, .ref (G.2.1 x0)), (1, .int x1), (3, .int x3), (4, .int x4), (7, .int x7)] [.int s0] Γ σ := by
  unfold fX13_layWatch_b154 at h
  refine r_istore (lv' := [(8, .int s0), (0, .ref (G.2.1 x0)), (1, .int x1), (3, .int x3), (4, .int x4), (7, .int x7)]) dX13_layWatch_154 (by decide) rfl ?_
  refine r_aload_n 1 dX13_layWatch_156 rfl ?_
  refine r_iload 4 dX13_layWatch_157 rfl ?_
  refine r_iconst (v := 1) dX13_layWatch_159 (by decide) ?_
  refine r_iadd dX13_layWatch_160 ?_
  refine r_iload_n 3 dX13_layWatch_161 rfl ?_
  obtain ⟨v1, ev1, h⟩ := bd0_some h
  refine q_cVI [.int (x4 + (1 : Int32)), .int x3] dX13_layWatch_162 cv_X13_328 (ci := 12) rfl rfl t0 rfl rfl (Nat.le_of_ble_eq_true rfl) (by omega) (kX13_wakesAt (d - 1) (by omega) x0 (x4 + (1 : Int32)) x3 t0 v1 ev1) ?_
  refine r_iconst (v := 1) dX13_layWatch_165 (by decide) ?_
  refine r_iadd dX13_layWatch_166 ?_
  refine q_nmI h (fun v2 h => ?_)
  refine r_istore (lv' := [(9, .int v2), (8, .int s0), (0, .ref (G.2.1 x0)), (1, .int x1), (3, .int x3), (4, .int x4), (7, .int x7)]) dX13_layWatch_167 (by decide) rfl ?_
  refine r_iconst (v := 0) dX13_layWatch_169 (by decide) ?_
  refine r_istore (lv' := [(10, .int (0 : Int32)), (9, .int v2), (8, .int s0), (0, .ref (G.2.1 x0)), (1, .int x1), (3, .int x3), (4, .int x4), (7, .int x7)]) dX13_layWatch_170 (by decide) rfl ?_
  obtain ⟨b3, eb3, h⟩ := bd0_some h
  refine r_pick [3, 4, 5, 6, 7, 2, 1, 0] rfl ?_
  refine sX13_layWatch_L172 hdd x0 x1 x3 x4 x7 s0 v2 t0 (K := fun b => b = b3) ?_ 1000 ((0 : Int32), σ) b3 eb3 rfl
  rintro τ4 rfl
  refine q_iinc (v := -1) 3 (fun v5 => [(4, .int v5), (0, .ref (G.2.1 x0)), (1, .int x1), (3, .int x3)]) dX13_layWatch_244 rfl (by decide) (by decide) (fun _ => rfl) h (fun v5 h => ?_)
  refine r_goto 46 dX13_layWatch_247 (by decide) ?_
  obtain rfl := Option.some.inj h
  refine r_pick [1, 2, 3, 0] rfl ?_
  exact hb _ _ rfl
theorem sX13_layWatch_L46 {l : Launch} {G : gg} {Γ : ly} {d : Nat} {Q : Option Value → ly → mm → Prop} (hdd : 5 ≤ d) (x0 : Nat) (x1 : Int32) (x3 : Int32) (t0 : tyOK Γ (0, 12) x0) {K : mm → Prop} (kx0 : ∀ (σ9 : mm), K σ9 → WP l G yX13_layWatch cX13_layWatch 11 (none) d 0 0 Q 0 0 250 [] [] Γ σ9) : ∀ (N : Nat) (s : (Int32 × mm)) (b : mm), loopN (fX13_layWatch_L46 Γ.2 x0 x1 x3) N s = some b → K b → WP l G yX13_layWatch cX13_layWatch 11 (none) d 0 0 Q 0 0 46 [(0, .ref (G.2.1 x0)), (1, .int x1), (3, .int x3), (4, .int s.1)] [] Γ s.2 := by
  refine r_loop (f := fX13_layWatch_L46 Γ.2 x0 x1 x3) (hlv := fun s => [(0, .ref (G.2.1 x0)), (1, .int x1), (3, .int x3), (4, .int s.1)]) (hsg := fun s => s.2) ?_
  rintro ⟨x4, σ⟩ r h hb hx
  have hb : ∀ (x4 : Int32) (σ : mm), r = .inl (x4, σ) → WP l G yX13_layWatch cX13_layWatch 11 (none) d 0 0 Q 0 0 46 [(0, .ref (G.2.1 x0)), (1, .int x1), (3, .int x3), (4, .int x4)] [] Γ σ := fun x4 σ e => hb (x4, σ) e
  have hx0 : ∀ (σ9 : mm), r = .inr σ9 → WP l G yX13_layWatch cX13_layWatch 11 (none) d 0 0 Q 0 0 250 [] [] Γ σ9 := fun σ9 e => kx0 σ9 (hx _ e)
  unfold fX13_layWatch_L46 at h
  have h := un2_some h
  show WP l G yX13_layWatch cX13_layWatch 11 (none) d 0 0 Q 0 0 46 [(0, .ref (G.2.1 x0)), (1, .int x1), (3, .int x3), (4, .int x4)] [] Γ σ
  refine r_iload 3 dX13_layWatch_46 rfl ?_
  refine r_if_lt 250 dX13_layWatch_48 (by decide) h (fun _ h => ?_) (fun _ h => ?_)
  · obtain rfl := Option.some.inj h
    refine r_pick [] rfl ?_
    exact hx0 _ rfl
  · refine r_aload_n 0 dX13_layWatch_51 rfl ?_
    refine q_getR (e9 := (1, 0)) dX13_layWatch_52 fd_X13_98 t0 rfl h (fun r1 tr1 h => ?_)
    refine r_bipush (v := 102) dX13_layWatch_55 (by decide) ?_
    refine q_iald dX13_layWatch_57 tr1 h (fun v2 h => ?_)
    refine r_iload 3 dX13_layWatch_58 rfl ?_
    refine r_iadd dX13_layWatch_60 ?_
    refine q_nmI h (fun v3 h => ?_)
    refine r_istore (lv' := [(5, .int v3), (0, .ref (G.2.1 x0)), (1, .int x1), (3, .int x3), (4, .int x4)]) dX13_layWatch_61 (by decide) rfl ?_
    refine r_aload_n 1 dX13_layWatch_63 rfl ?_
    refine r_iload_n 2 dX13_layWatch_64 rfl ?_
    refine r_iload 0 dX13_layWatch_65 rfl ?_
    obtain ⟨v4, ev4, h⟩ := bd0_some h
    refine q_cVI [.int x1, .int v3] dX13_layWatch_67 cv_X13_264 (ci := 12) rfl rfl t0 rfl rfl (Nat.le_of_ble_eq_true rfl) (by omega) (kX13_runs (d - 1) (by omega) x0 x1 v3 t0 v4 ev4) ?_
    refine r_istore (lv' := [(6, .int v4), (5, .int v3), (0, .ref (G.2.1 x0)), (1, .int x1), (3, .int x3), (4, .int x4)]) dX13_layWatch_70 (by decide) rfl ?_
    refine r_iconst (v := 1) dX13_layWatch_72 (by decide) ?_
    refine r_istore (lv' := [(7, .int (1 : Int32)), (6, .int v4), (5, .int v3), (0, .ref (G.2.1 x0)), (1, .int x1), (3, .int x3), (4, .int x4)]) dX13_layWatch_73 (by decide) rfl ?_
    obtain ⟨b5, eb5, h⟩ := bd0_some h
    refine r_pick [3, 4, 5, 6, 2, 1, 0] rfl ?_
    refine sX13_layWatch_L75 hdd x0 x1 x3 x4 v3 v4 t0 (K := fun b => b = b5) ?_ 1000 ((1 : Int32), σ) b5 eb5 rfl
    rintro τ6 rfl
    refine r_aload_n 0 dX13_layWatch_129 rfl ?_
    refine r_iload_n 1 dX13_layWatch_130 rfl ?_
    refine r_iload 4 dX13_layWatch_131 rfl ?_
    obtain ⟨v7, ev7, h⟩ := bd0_some h
    refine q_cVI [.int x1, .int v3] dX13_layWatch_133 cv_X13_331 (ci := 12) rfl rfl t0 rfl rfl (Nat.le_of_ble_eq_true rfl) (by omega) (kX13_isTurned (d - 1) (by omega) x0 x1 v3 t0 v7 ev7) ?_
    refine r_istore (lv' := [(7, .int v7), (0, .ref (G.2.1 x0)), (1, .int x1), (3, .int x3), (4, .int x4), (5, .int v3)]) dX13_layWatch_136 (by decide) rfl ?_
    refine r_aload_n 1 dX13_layWatch_138 rfl ?_
    refine r_iload_n 2 dX13_layWatch_139 rfl ?_
    refine r_iload 5 dX13_layWatch_140 rfl ?_
    obtain ⟨v8, ev8, h⟩ := bd0_some h
    refine q_cVI [.int x1, .int v3] dX13_layWatch_142 cv_X13_334 (ci := 12) rfl rfl t0 rfl rfl (Nat.le_of_ble_eq_true rfl) (by omega) (kX13_sleeper (d - 1) (by omega) x0 x1 v3 t0 v8 ev8) ?_
    refine r_iconst (v := -1) dX13_layWatch_145 (by decide) ?_
    refine r_icmp_eq 153 dX13_layWatch_146 (by decide) h (fun _ h => ?_) (fun _ h => ?_)
    · refine r_iconst (v := 0) dX13_layWatch_153 (by decide) ?_
      refine r_pick [1, 2, 3, 4, 0] rfl ?_
      exact tX13_layWatch_b154 hdd τ6 x0 x1 x3 x4 v7 (0 : Int32) t0 _ h hb hx0
    · refine r_iconst (v := 1) dX13_layWatch_149 (by decide) ?_
      refine r_goto 154 dX13_layWatch_150 (by decide) ?_
      refine r_pick [1, 2, 3, 4, 0] rfl ?_
      exact tX13_layWatch_b154 hdd τ6 x0 x1 x3 x4 v7 (1 : Int32) t0 _ h hb hx0
theorem kX13_layWatch {l : Launch} {G : gg} {Γ : ly} {σ : mm} (d : Nat) (hdd : 5 ≤ d) (x0 : Nat) (x1 : Int32) (x2 : Int32) (t0 : tyOK Γ (0, 12) x0) (r : mm) (h : fX13_layWatch Γ.2 σ x0 x1 x2 = some r) : CT l G yX13_layWatch cX13_layWatch 11 (none) d 0 0 [.ref (G.2.1 x0), .int x1, .int x2] Γ σ (PP none Γ r) := by
  refine CT.ofWP (by decide) (Nat.le_of_ble_eq_true rfl) ?_
  have hQ : PP none Γ r none Γ r := PP.self
  generalize PP none Γ r = Q at hQ ⊢
  show WP l G yX13_layWatch cX13_layWatch 11 (none) d 0 0 Q 0 0 0 [(0, .ref (G.2.1 x0)), (1, .int x1), (2, .int x2)] [] Γ σ
  unfold fX13_layWatch at h
  refine r_aload_n 0 dX13_layWatch_0 rfl ?_
  refine q_getR (e9 := (1, 0)) dX13_layWatch_1 fd_X13_98 t0 rfl h (fun r1 tr1 h => ?_)
  refine r_bipush (v := 64) dX13_layWatch_4 (by decide) ?_
  refine r_iload_n 1 dX13_layWatch_6 rfl ?_
  refine r_iadd dX13_layWatch_7 ?_
  refine q_iald dX13_layWatch_8 tr1 h (fun v2 h => ?_)
  refine r_istore_n (lv' := [(3, .int v2), (0, .ref (G.2.1 x0)), (1, .int x1), (2, .int x2)]) dX13_layWatch_9 (by decide) rfl ?_
  refine r_iconst (v := 0) dX13_layWatch_10 (by decide) ?_
  refine r_istore (lv' := [(4, .int (0 : Int32)), (3, .int v2), (0, .ref (G.2.1 x0)), (1, .int x1), (2, .int x2)]) dX13_layWatch_11 (by decide) rfl ?_
  obtain ⟨b3, eb3, h⟩ := bd0_some h
  refine r_pick [2, 3, 4, 1, 0] rfl ?_
  refine sX13_layWatch_L13 hdd x0 x1 x2 v2 t0 (K := fun b => b = b3) ?_ 1000 ((0 : Int32), σ) b3 eb3 rfl
  rintro τ4 rfl
  refine r_iload_n 2 dX13_layWatch_41 rfl ?_
  refine r_iconst (v := 1) dX13_layWatch_42 (by decide) ?_
  refine r_isub dX13_layWatch_43 ?_
  refine q_nmI h (fun v5 h => ?_)
  refine r_istore (lv' := [(4, .int v5), (0, .ref (G.2.1 x0)), (1, .int x1), (2, .int x2), (3, .int v2)]) dX13_layWatch_44 (by decide) rfl ?_
  obtain ⟨b6, eb6, h⟩ := bd0_some h
  refine r_pick [1, 2, 4, 0] rfl ?_
  refine sX13_layWatch_L46 hdd x0 x1 v2 t0 (K := fun b => b = b6) ?_ 1000 (v5, τ4) b6 eb6 rfl
  rintro τ7 rfl
  obtain rfl := Option.some.inj h
  exact r_return dX13_layWatch_250 rfl hQ (Nat.le_refl _) (Nat.le_refl _)
theorem tX13_watch_b31 {l : Launch} {G : gg} {Γ : ly} {d : Nat} {Q : Option Value → ly → mm → Prop} (hdd : 6 ≤ d) (σ : mm)     (r : (Int32 × mm)) (h : fX13_watch_b31 Γ.2 σ  = some r) (hQ : Q (some (.int r.1)) Γ r.2) : WP l G yX13_watch cX13_watch 9 (some .int) d 0 0 Q 0 0 31 [] [] Γ σ := by
  unfold fX13_watch_b31 at h
  refine r_iconst (v := -1) dX13_watch_31 (by decide) ?_
  obtain rfl := Option.some.inj h
  exact r_ireturn dX13_watch_32 rfl hQ (Nat.le_refl _) (Nat.le_refl _)
theorem tX13_watch_b276 {l : Launch} {G : gg} {Γ : ly} {d : Nat} {Q : Option Value → ly → mm → Prop} (hdd : 6 ≤ d) (σ : mm) (x0 : Nat) (x1 : Int32) (x3 : Int32) (x4 : Int32) (x5 : Int32) (x6 : Int32)  (t0 : tyOK Γ (0, 12) x0)  (r : ((Int32 × Int32 × mm) ⊕ mm)) (h : fX13_watch_b276 Γ.2 σ x0 x1 x3 x4 x5 x6 = some r) (hb : ∀ (x4 : Int32) (x6 : Int32) (σ9 : mm), r = .inl (x4, x6, σ9) → WP l G yX13_watch cX13_watch 9 (some .int) d 0 0 Q 0 0 122 [(0, .ref (G.2.1 x0)), (1, .int x1), (3, .int x3), (4, .int x4), (5, .int x5), (6, .int x6)] [] Γ σ9) (hx0 : ∀ (σ9 : mm), r = .inr σ9 → WP l G yX13_watch cX13_watch 9 (some .int) d 0 0 Q 0 0 282 [(5, .int x5)] [] Γ σ9) : WP l G yX13_watch cX13_watch 9 (some .int) d 0 0 Q 0 0 276 [(0, .ref (G.2.1 x0)), (1, .int x1), (3, .int x3), (4, .int x4), (5, .int x5), (6, .int x6)] [] Γ σ := by
  unfold fX13_watch_b276 at h
  refine q_iinc (v := 1) 5 (fun v1 => [(6, .int v1), (0, .ref (G.2.1 x0)), (1, .int x1), (3, .int x3), (4, .int x4), (5, .int x5)]) dX13_watch_276 rfl (by decide) (by decide) (fun _ => rfl) h (fun v1 h => ?_)
  refine r_goto 122 dX13_watch_279 (by decide) ?_
  obtain rfl := Option.some.inj h
  refine r_pick [1, 2, 3, 4, 5, 0] rfl ?_
  exact hb _ _ _ rfl
theorem tX13_watch_b175 {l : Launch} {G : gg} {Γ : ly} {d : Nat} {Q : Option Value → ly → mm → Prop} (hdd : 6 ≤ d) (σ : mm) (x0 : Nat) (x1 : Int32) (x3 : Int32) (x5 : Int32) (x6 : Int32) (s0 : Int32) (t0 : tyOK Γ (0, 12) x0)  (r : ((Int32 × Int32 × mm) ⊕ mm)) (h : fX13_watch_b175 Γ.2 σ x0 x1 x3 x5 x6 s0 = some r) (hb : ∀ (x4 : Int32) (x6 : Int32) (σ9 : mm), r = .inl (x4, x6, σ9) → WP l G yX13_watch cX13_watch 9 (some .int) d 0 0 Q 0 0 122 [(0, .ref (G.2.1 x0)), (1, .int x1), (3, .int x3), (4, .int x4), (5, .int x5), (6, .int x6)] [] Γ σ9) (hx0 : ∀ (σ9 : mm), r = .inr σ9 → WP l G yX13_watch cX13_watch 9 (some .int) d 0 0 Q 0 0 282 [(5, .int x5)] [] Γ σ9) : WP l G yX13_watch cX13_watch 9 (some .int) d 0 0 Q 0 0 175 [(0, .ref (G.2.1 x0)), (1, .int x1), (3, .int x3), (5, .int x5), (6, .int x6)] [.int s0] Γ σ := by
  unfold fX13_watch_b175 at h
  refine r_istore (lv' := [(4, .int s0), (0, .ref (G.2.1 x0)), (1, .int x1), (3, .int x3), (5, .int x5), (6, .int x6)]) dX13_watch_175 (by decide) rfl ?_
  refine r_goto 276 dX13_watch_177 (by decide) ?_
  refine r_pick [1, 2, 3, 0, 4, 5] rfl ?_
  exact tX13_watch_b276 hdd σ x0 x1 x3 s0 x5 x6 t0 _ h hb hx0
theorem sX13_watch_L122 {l : Launch} {G : gg} {Γ : ly} {d : Nat} {Q : Option Value → ly → mm → Prop} (hdd : 6 ≤ d) (x0 : Nat) (x1 : Int32) (x3 : Int32) (x5 : Int32) (t0 : tyOK Γ (0, 12) x0) {K : mm → Prop} (kx0 : ∀ (σ9 : mm), K σ9 → WP l G yX13_watch cX13_watch 9 (some .int) d 0 0 Q 0 0 282 [(5, .int x5)] [] Γ σ9) : ∀ (N : Nat) (s : (Int32 × Int32 × mm)) (b : mm), loopN (fX13_watch_L122 Γ.2 x0 x1 x3 x5) N s = some b → K b → WP l G yX13_watch cX13_watch 9 (some .int) d 0 0 Q 0 0 122 [(0, .ref (G.2.1 x0)), (1, .int x1), (3, .int x3), (4, .int s.1), (5, .int x5), (6, .int s.2.1)] [] Γ s.2.2 := by
  refine r_loop (f := fX13_watch_L122 Γ.2 x0 x1 x3 x5) (hlv := fun s => [(0, .ref (G.2.1 x0)), (1, .int x1), (3, .int x3), (4, .int s.1), (5, .int x5), (6, .int s.2.1)]) (hsg := fun s => s.2.2) ?_
  rintro ⟨x4, x6, σ⟩ r h hb hx
  have hb : ∀ (x4 : Int32) (x6 : Int32) (σ : mm), r = .inl (x4, x6, σ) → WP l G yX13_watch cX13_watch 9 (some .int) d 0 0 Q 0 0 122 [(0, .ref (G.2.1 x0)), (1, .int x1), (3, .int x3), (4, .int x4), (5, .int x5), (6, .int x6)] [] Γ σ := fun x4 x6 σ e => hb (x4, x6, σ) e
  have hx0 : ∀ (σ9 : mm), r = .inr σ9 → WP l G yX13_watch cX13_watch 9 (some .int) d 0 0 Q 0 0 282 [(5, .int x5)] [] Γ σ9 := fun σ9 e => kx0 σ9 (hx _ e)
  unfold fX13_watch_L122 at h
  have h := un3_some h
  show WP l G yX13_watch cX13_watch 9 (some .int) d 0 0 Q 0 0 122 [(0, .ref (G.2.1 x0)), (1, .int x1), (3, .int x3), (4, .int x4), (5, .int x5), (6, .int x6)] [] Γ σ
  refine r_iload 5 dX13_watch_122 rfl ?_
  refine r_iload_n 2 dX13_watch_124 rfl ?_
  refine r_icmp_ge 282 dX13_watch_125 (by decide) h (fun _ h => ?_) (fun _ h => ?_)
  · obtain rfl := Option.some.inj h
    refine r_pick [4] rfl ?_
    exact hx0 _ rfl
  · refine r_aload_n 0 dX13_watch_128 rfl ?_
    refine q_getR (e9 := (1, 0)) dX13_watch_129 fd_X13_98 t0 rfl h (fun r1 tr1 h => ?_)
    refine r_bipush (v := 102) dX13_watch_132 (by decide) ?_
    refine q_iald dX13_watch_134 tr1 h (fun v2 h => ?_)
    refine r_iload 5 dX13_watch_135 rfl ?_
    refine r_iadd dX13_watch_137 ?_
    refine q_nmI h (fun v3 h => ?_)
    refine r_istore (lv' := [(7, .int v3), (0, .ref (G.2.1 x0)), (1, .int x1), (3, .int x3), (4, .int x4), (5, .int x5), (6, .int x6)]) dX13_watch_138 (by decide) rfl ?_
    refine r_iload 4 dX13_watch_140 rfl ?_
    refine r_sipush (v := 250) dX13_watch_142 (by decide) ?_
    refine r_icmp_gt 180 dX13_watch_145 (by decide) h (fun _ h => ?_) (fun _ h => ?_)
    · refine r_aload_n 1 dX13_watch_180 rfl ?_
      refine r_iload_n 2 dX13_watch_181 rfl ?_
      refine r_iload 0 dX13_watch_182 rfl ?_
      obtain ⟨v4, ev4, h⟩ := bd0_some h
      refine q_cVI [.int x1, .int v3] dX13_watch_184 cv_X13_331 (ci := 12) rfl rfl t0 rfl rfl (Nat.le_of_ble_eq_true rfl) (by omega) (kX13_isTurned (d - 1) (by omega) x0 x1 v3 t0 v4 ev4) ?_
      refine r_if_eq 204 dX13_watch_187 (by decide) h (fun _ h => ?_) (fun _ h => ?_)
      · refine r_aload_n 1 dX13_watch_204 rfl ?_
        refine r_iload 6 dX13_watch_205 rfl ?_
        refine r_iload 4 dX13_watch_207 rfl ?_
        refine r_sipush (v := 251) dX13_watch_209 (by decide) ?_
        refine r_isub dX13_watch_212 ?_
        obtain ⟨v5, ev5, h⟩ := bd0_some h
        refine q_cVI [.int x6, .int (x4 - (251 : Int32))] dX13_watch_213 cv_X13_337 (ci := 12) rfl rfl t0 rfl rfl (Nat.le_of_ble_eq_true rfl) (by omega) (kX13_waits (d - 1) (by omega) x0 x6 (x4 - (251 : Int32)) t0 v5 ev5) ?_
        refine r_aload_n 1 dX13_watch_216 rfl ?_
        refine r_iload 6 dX13_watch_217 rfl ?_
        refine r_iload 4 dX13_watch_219 rfl ?_
        obtain ⟨v6, ev6, h⟩ := bd0_some h
        refine q_cVI [.int x6, .int x4] dX13_watch_221 cv_X13_328 (ci := 12) rfl rfl t0 rfl rfl (Nat.le_of_ble_eq_true rfl) (by omega) (kX13_wakesAt (d - 1) (by omega) x0 x6 x4 t0 v6 ev6) ?_
        refine r_icmp_ne 233 dX13_watch_224 (by decide) h (fun _ h => ?_) (fun _ h => ?_)
        · refine r_aload_n 1 dX13_watch_233 rfl ?_
          refine q_getR (e9 := (1, 0)) dX13_watch_234 fd_X13_133 t0 rfl h (fun r7 tr7 h => ?_)
          refine r_aload_n 1 dX13_watch_237 rfl ?_
          refine r_getI dX13_watch_238 fd_X13_343 t0 ?_
          refine r_bipush (v := 10) dX13_watch_241 (by decide) ?_
          refine r_iload 0 dX13_watch_243 rfl ?_
          refine r_imul dX13_watch_245 ?_
          refine r_aload_n 1 dX13_watch_246 rfl ?_
          refine r_iload_n 2 dX13_watch_247 rfl ?_
          refine r_iload 0 dX13_watch_248 rfl ?_
          obtain ⟨v8, ev8, h⟩ := bd0_some h
          refine q_cVI [.int x1, .int v3] dX13_watch_250 cv_X13_334 (ci := 12) rfl rfl t0 rfl rfl (Nat.le_of_ble_eq_true rfl) (by omega) (kX13_sleeper (d - 1) (by omega) x0 x1 v3 t0 v8 ev8) ?_
          refine r_iadd dX13_watch_253 ?_
          refine q_iast dX13_watch_254 tr7 h (fun τ9 h => ?_)
          refine r_aload_n 1 dX13_watch_255 rfl ?_
          refine r_dup dX13_watch_256 rfl ?_
          refine r_getI dX13_watch_257 fd_X13_343 t0 ?_
          refine r_iconst (v := 1) dX13_watch_260 (by decide) ?_
          refine r_iadd dX13_watch_261 ?_
          refine q_putI dX13_watch_262 fd_X13_343 t0 h (fun τ10 h => ?_)
          refine r_aload_n 1 dX13_watch_265 rfl ?_
          refine q_getR (e9 := (1, 0)) dX13_watch_266 fd_X13_98 t0 rfl h (fun r11 tr11 h => ?_)
          refine r_bipush (v := 64) dX13_watch_269 (by decide) ?_
          refine r_iload_n 2 dX13_watch_271 rfl ?_
          refine r_iadd dX13_watch_272 ?_
          refine q_iald dX13_watch_273 tr11 h (fun v12 h => ?_)
          refine r_istore (lv' := [(4, .int v12), (7, .int v3), (0, .ref (G.2.1 x0)), (1, .int x1), (3, .int x3), (5, .int x5), (6, .int x6)]) dX13_watch_274 (by decide) rfl ?_
          refine r_pick [2, 3, 4, 0, 5, 6] rfl ?_
          exact tX13_watch_b276 hdd τ10 x0 x1 x3 v12 x5 x6 t0 _ h hb hx0
        · refine q_iinc (v := 1) 4 (fun v13 => [(4, .int v13), (7, .int v3), (0, .ref (G.2.1 x0)), (1, .int x1), (3, .int x3), (5, .int x5), (6, .int x6)]) dX13_watch_227 rfl (by decide) (by decide) (fun _ => rfl) h (fun v13 h => ?_)
          refine r_goto 276 dX13_watch_230 (by decide) ?_
          refine r_pick [2, 3, 4, 0, 5, 6] rfl ?_
          exact tX13_watch_b276 hdd σ x0 x1 x3 v13 x5 x6 t0 _ h hb hx0
      · refine r_aload_n 1 dX13_watch_190 rfl ?_
        refine q_getR (e9 := (1, 0)) dX13_watch_191 fd_X13_98 t0 rfl h (fun r14 tr14 h => ?_)
        refine r_bipush (v := 64) dX13_watch_194 (by decide) ?_
        refine r_iload_n 2 dX13_watch_196 rfl ?_
        refine r_iadd dX13_watch_197 ?_
        refine q_iald dX13_watch_198 tr14 h (fun v15 h => ?_)
        refine r_istore (lv' := [(4, .int v15), (7, .int v3), (0, .ref (G.2.1 x0)), (1, .int x1), (3, .int x3), (5, .int x5), (6, .int x6)]) dX13_watch_199 (by decide) rfl ?_
        refine r_goto 276 dX13_watch_201 (by decide) ?_
        refine r_pick [2, 3, 4, 0, 5, 6] rfl ?_
        exact tX13_watch_b276 hdd σ x0 x1 x3 v15 x5 x6 t0 _ h hb hx0
    · refine r_aload_n 1 dX13_watch_148 rfl ?_
      refine r_iload_n 2 dX13_watch_149 rfl ?_
      refine r_iload 0 dX13_watch_150 rfl ?_
      obtain ⟨v16, ev16, h⟩ := bd0_some h
      refine q_cVI [.int x1, .int v3] dX13_watch_152 cv_X13_264 (ci := 12) rfl rfl t0 rfl rfl (Nat.le_of_ble_eq_true rfl) (by omega) (kX13_runs (d - 1) (by omega) x0 x1 v3 t0 v16 ev16) ?_
      refine r_istore (lv' := [(8, .int v16), (7, .int v3), (0, .ref (G.2.1 x0)), (1, .int x1), (3, .int x3), (4, .int x4), (5, .int x5), (6, .int x6)]) dX13_watch_155 (by decide) rfl ?_
      refine r_iload 5 dX13_watch_157 rfl ?_
      refine r_iload 0 dX13_watch_159 rfl ?_
      refine r_icmp_le 172 dX13_watch_161 (by decide) h (fun _ h => ?_) (fun _ h => ?_)
      · refine r_sipush (v := 251) dX13_watch_172 (by decide) ?_
        refine r_pick [2, 3, 4, 6, 7] rfl ?_
        exact tX13_watch_b175 hdd σ x0 x1 x3 x5 x6 (251 : Int32) t0 _ h hb hx0
      · refine r_iload 5 dX13_watch_164 rfl ?_
        refine r_iload 0 dX13_watch_166 rfl ?_
        refine r_isub dX13_watch_168 ?_
        refine r_goto 175 dX13_watch_169 (by decide) ?_
        refine r_pick [2, 3, 4, 6, 7] rfl ?_
        exact tX13_watch_b175 hdd σ x0 x1 x3 x5 x6 (x4 - v16) t0 _ h hb hx0
theorem tX13_watch_b93 {l : Launch} {G : gg} {Γ : ly} {d : Nat} {Q : Option Value → ly → mm → Prop} (hdd : 6 ≤ d) (σ : mm) (x0 : Nat) (x1 : Int32) (x3 : Int32) (s0 : Int32) (t0 : tyOK Γ (0, 12) x0)  (r : (Int32 × mm)) (h : fX13_watch_b93 Γ.2 σ x0 x1 x3 s0 = some r) (hQ : Q (some (.int r.1)) Γ r.2) : WP l G yX13_watch cX13_watch 9 (some .int) d 0 0 Q 0 0 93 [(0, .ref (G.2.1 x0)), (1, .int x1), (3, .int x3)] [.int s0] Γ σ := by
  unfold fX13_watch_b93 at h
  refine r_istore (lv' := [(4, .int s0), (0, .ref (G.2.1 x0)), (1, .int x1), (3, .int x3)]) dX13_watch_93 (by decide) rfl ?_
  refine r_aload_n 1 dX13_watch_95 rfl ?_
  refine r_iconst (v := 0) dX13_watch_96 (by decide) ?_
  refine r_iload 0 dX13_watch_97 rfl ?_
  obtain ⟨v1, ev1, h⟩ := bd0_some h
  refine q_cVI [.int (0 : Int32), .int s0] dX13_watch_99 cv_X13_328 (ci := 12) rfl rfl t0 rfl rfl (Nat.le_of_ble_eq_true rfl) (by omega) (kX13_wakesAt (d - 1) (by omega) x0 (0 : Int32) s0 t0 v1 ev1) ?_
  refine r_istore (lv' := [(5, .int v1), (4, .int s0), (0, .ref (G.2.1 x0)), (1, .int x1), (3, .int x3)]) dX13_watch_102 (by decide) rfl ?_
  refine r_iload 0 dX13_watch_104 rfl ?_
  refine r_ldcw (v := 100000) dX13_watch_106 ki_X13_327 ?_
  refine r_icmp_lt 114 dX13_watch_109 (by decide) h (fun _ h => ?_) (fun _ h => ?_)
  · refine r_aload_n 2 dX13_watch_114 rfl ?_
    refine r_iconst (v := 0) dX13_watch_115 (by decide) ?_
    refine q_putI dX13_watch_116 fd_X13_343 t0 h (fun τ2 h => ?_)
    refine r_iconst (v := 0) dX13_watch_119 (by decide) ?_
    refine r_istore (lv' := [(6, .int (0 : Int32)), (5, .int v1), (4, .int s0), (0, .ref (G.2.1 x0)), (1, .int x1), (3, .int x3)]) dX13_watch_120 (by decide) rfl ?_
    obtain ⟨b3, eb3, h⟩ := bd0_some h
    refine r_pick [3, 4, 5, 2, 1, 0] rfl ?_
    refine sX13_watch_L122 hdd x0 x1 x3 v1 t0 (K := fun b => b = b3) ?_ 1000 (s0, (0 : Int32), τ2) b3 eb3 rfl
    rintro τ4 rfl
    refine r_iload 0 dX13_watch_282 rfl ?_
    obtain rfl := Option.some.inj h
    exact r_ireturn dX13_watch_284 rfl hQ (Nat.le_refl _) (Nat.le_refl _)
  · refine r_iconst (v := -1) dX13_watch_112 (by decide) ?_
    obtain rfl := Option.some.inj h
    exact r_ireturn dX13_watch_113 rfl hQ (Nat.le_refl _) (Nat.le_refl _)
theorem kX13_watch {l : Launch} {G : gg} {Γ : ly} {σ : mm} (d : Nat) (hdd : 6 ≤ d) (x0 : Nat) (x1 : Int32) (x2 : Int32) (t0 : tyOK Γ (0, 12) x0) (r : (Int32 × mm)) (h : fX13_watch Γ.2 σ x0 x1 x2 = some r) : CT l G yX13_watch cX13_watch 9 (some .int) d 0 0 [.ref (G.2.1 x0), .int x1, .int x2] Γ σ (PP (some (.int r.1)) Γ r.2) := by
  refine CT.ofWP (by decide) (Nat.le_of_ble_eq_true rfl) ?_
  have hQ : PP (some (.int r.1)) Γ r.2 (some (.int r.1)) Γ r.2 := PP.self
  generalize PP (some (.int r.1)) Γ r.2 = Q at hQ ⊢
  show WP l G yX13_watch cX13_watch 9 (some .int) d 0 0 Q 0 0 0 [(0, .ref (G.2.1 x0)), (1, .int x1), (2, .int x2)] [] Γ σ
  unfold fX13_watch at h
  refine r_aload_n 0 dX13_watch_0 rfl ?_
  refine r_iconst (v := 0) dX13_watch_1 (by decide) ?_
  refine q_putI dX13_watch_2 fd_X13_1 t0 h (fun τ1 h => ?_)
  refine r_aload_n 0 dX13_watch_5 rfl ?_
  refine r_iload_n 1 dX13_watch_6 rfl ?_
  obtain ⟨v2, ev2, h⟩ := bd0_some h
  refine q_cVI [.int x1] dX13_watch_7 cv_X13_258 (ci := 12) rfl rfl t0 rfl rfl (Nat.le_of_ble_eq_true rfl) (by omega) (kX13_isGlass (d - 1) (by omega) x0 x1 t0 v2 ev2) ?_
  refine r_if_eq 31 dX13_watch_10 (by decide) h (fun _ h => ?_) (fun _ h => ?_)
  · refine r_pick [] rfl ?_
    exact tX13_watch_b31 hdd τ1  _ h hQ
  · refine r_aload_n 0 dX13_watch_13 rfl ?_
    refine r_iload_n 1 dX13_watch_14 rfl ?_
    obtain ⟨v3, ev3, h⟩ := bd0_some h
    refine q_cVI [.int x1] dX13_watch_15 cv_X13_261 (ci := 12) rfl rfl t0 rfl rfl (Nat.le_of_ble_eq_true rfl) (by omega) (kX13_isLapsed (d - 1) (by omega) x0 x1 t0 v3 ev3) ?_
    refine r_if_ne 31 dX13_watch_18 (by decide) h (fun _ h => ?_) (fun _ h => ?_)
    · refine r_pick [] rfl ?_
      exact tX13_watch_b31 hdd τ1  _ h hQ
    · refine r_iload_n 2 dX13_watch_21 rfl ?_
      refine r_iconst (v := 1) dX13_watch_22 (by decide) ?_
      refine r_bipush (v := 60) dX13_watch_23 (by decide) ?_
      obtain ⟨v4, ev4, h⟩ := bd0_some h
      refine q_cSI [.int x2, .int (1 : Int32), .int (60 : Int32)] dX13_watch_25 cs_X13_75 rfl rfl (Nat.le_of_ble_eq_true rfl) (by omega) (kX13_isIn (d - 1) (by omega) x2 (1 : Int32) (60 : Int32)  v4 ev4) ?_
      refine r_if_ne 33 dX13_watch_28 (by decide) h (fun _ h => ?_) (fun _ h => ?_)
      · refine r_iload_n 2 dX13_watch_33 rfl ?_
        refine r_sipush (v := 600) dX13_watch_34 (by decide) ?_
        refine r_aload_n 0 dX13_watch_37 rfl ?_
        refine q_getR (e9 := (1, 0)) dX13_watch_38 fd_X13_98 t0 rfl h (fun r5 tr5 h => ?_)
        refine r_bipush (v := 102) dX13_watch_41 (by decide) ?_
        refine q_iald dX13_watch_43 tr5 h (fun v6 h => ?_)
        refine r_isub dX13_watch_44 ?_
        obtain ⟨v7, ev7, h⟩ := bd0_some h
        refine q_cSI [.int x2, .int ((600 : Int32) - v6)] dX13_watch_45 cs_X13_227 rfl rfl (Nat.le_of_ble_eq_true rfl) (by omega) (kX13_least (d - 1) (by omega) x2 ((600 : Int32) - v6)  v7 ev7) ?_
        refine r_istore_n (lv' := [(3, .int v7), (0, .ref (G.2.1 x0)), (1, .int x1), (2, .int x2)]) dX13_watch_48 (by decide) rfl ?_
        refine r_aload_n 1 dX13_watch_49 rfl ?_
        refine r_iload_n 2 dX13_watch_50 rfl ?_
        refine r_iload_n 0 dX13_watch_51 rfl ?_
        obtain ⟨τ8, eτ8, h⟩ := bd0_some h
        refine q_cVV [.int x1, .int v7] dX13_watch_52 cv_X13_340 (ci := 12) rfl rfl t0 rfl rfl (Nat.le_of_ble_eq_true rfl) (by omega) (kX13_layWatch (d - 1) (by omega) x0 x1 v7 t0 τ8 eτ8) ?_
        refine r_aload_n 1 dX13_watch_55 rfl ?_
        refine q_getR (e9 := (1, 0)) dX13_watch_56 fd_X13_98 t0 rfl h (fun r9 tr9 h => ?_)
        refine r_bipush (v := 125) dX13_watch_59 (by decide) ?_
        refine r_iload_n 2 dX13_watch_61 rfl ?_
        refine r_iadd dX13_watch_62 ?_
        refine q_iald dX13_watch_63 tr9 h (fun v10 h => ?_)
        refine r_if_le 79 dX13_watch_64 (by decide) h (fun _ h => ?_) (fun _ h => ?_)
        · refine r_sipush (v := 251) dX13_watch_79 (by decide) ?_
          refine r_aload_n 1 dX13_watch_82 rfl ?_
          refine q_getR (e9 := (1, 0)) dX13_watch_83 fd_X13_98 t0 rfl h (fun r11 tr11 h => ?_)
          refine r_sipush (v := 133) dX13_watch_86 (by decide) ?_
          refine r_iload_n 2 dX13_watch_89 rfl ?_
          refine r_iadd dX13_watch_90 ?_
          refine q_iald dX13_watch_91 tr11 h (fun v12 h => ?_)
          refine r_iadd dX13_watch_92 ?_
          refine r_pick [1, 2, 0] rfl ?_
          exact tX13_watch_b93 hdd τ8 x0 x1 v7 ((251 : Int32) + v12) t0 _ h hQ
        · refine r_aload_n 1 dX13_watch_67 rfl ?_
          refine q_getR (e9 := (1, 0)) dX13_watch_68 fd_X13_98 t0 rfl h (fun r13 tr13 h => ?_)
          refine r_bipush (v := 125) dX13_watch_71 (by decide) ?_
          refine r_iload_n 2 dX13_watch_73 rfl ?_
          refine r_iadd dX13_watch_74 ?_
          refine q_iald dX13_watch_75 tr13 h (fun v14 h => ?_)
          refine r_goto 93 dX13_watch_76 (by decide) ?_
          refine r_pick [1, 2, 0] rfl ?_
          exact tX13_watch_b93 hdd τ8 x0 x1 v7 v14 t0 _ h hQ
      · refine r_pick [] rfl ?_
        exact tX13_watch_b31 hdd τ1  _ h hQ
