/-! the walks, 12 -/
theorem tX13_readCompare_b33 {l : Launch} {G : gg} {Γ : ly} {d : Nat} {Q : Option Value → ly → mm → Prop} (hdd : 3 ≤ d) (σ : mm) (x0 : Nat) (x1 : Int32)  (t0 : tyOK Γ (0, 12) x0)  (r : (Int32 × mm)) (h : fX13_readCompare_b33 Γ.2 σ x0 x1 = some r) (hQ : Q (some (.int r.1)) Γ r.2) : WP l G yX13_readCompare cX13_readCompare 3 (some .boolean) d 0 0 Q 0 0 33 [(0, .ref (G.2.1 x0)), (1, .int x1)] [] Γ σ := by
  unfold fX13_readCompare_b33 at h
  refine r_aload_n 0 dX13_readCompare_33 rfl ?_
  refine r_getI dX13_readCompare_34 fd_X13_40 t0 ?_
  refine q_nmI h (fun v1 h => ?_)
  refine r_istore_n (lv' := [(2, .int v1), (0, .ref (G.2.1 x0)), (1, .int x1)]) dX13_readCompare_37 (by decide) rfl ?_
  refine r_aload_n 1 dX13_readCompare_38 rfl ?_
  obtain ⟨τ2, eτ2, h⟩ := bd0_some h
  refine q_cVV [] dX13_readCompare_39 cv_X13_82 (ci := 12) rfl rfl t0 rfl rfl (Nat.le_of_ble_eq_true rfl) (by omega) (kX13_go (d - 1) (by omega) x0 t0 τ2 eτ2) ?_
  refine r_aload_n 1 dX13_readCompare_42 rfl ?_
  refine r_iconst (v := 0) dX13_readCompare_43 (by decide) ?_
  refine r_sipush (v := 999) dX13_readCompare_44 (by decide) ?_
  obtain ⟨v3, τ4, ev3, h⟩ := bd2_some h
  refine q_cVI [.int (0 : Int32), .int (999 : Int32)] dX13_readCompare_47 cv_X13_172 (ci := 12) rfl rfl t0 rfl rfl (Nat.le_of_ble_eq_true rfl) (by omega) (kX13_readNumber (d - 1) (by omega) x0 (0 : Int32) (999 : Int32) t0 (v3, τ4) ev3) ?_
  refine r_if_ne 55 dX13_readCompare_50 (by decide) h (fun _ h => ?_) (fun _ h => ?_)
  · refine r_aload_n 1 dX13_readCompare_55 rfl ?_
    refine r_aload_n 1 dX13_readCompare_56 rfl ?_
    refine r_bipush (v := 50) dX13_readCompare_57 (by decide) ?_
    refine r_iload_n 2 dX13_readCompare_59 rfl ?_
    refine r_iadd dX13_readCompare_60 ?_
    refine r_iconst (v := 0) dX13_readCompare_61 (by decide) ?_
    refine r_aload_n 1 dX13_readCompare_62 rfl ?_
    refine r_getI dX13_readCompare_63 fd_X13_79 t0 ?_
    refine r_iload_n 0 dX13_readCompare_66 rfl ?_
    obtain ⟨v5, τ6, ev5, h⟩ := bd2_some h
    refine q_cVI [.int ((50 : Int32) + x1), .int (0 : Int32), .int (τ4.1 x0 13), .int v1] dX13_readCompare_67 cv_X13_423 (ci := 12) rfl rfl t0 rfl rfl (Nat.le_of_ble_eq_true rfl) (by omega) (kX13_saysOne (d - 1) (by omega) x0 ((50 : Int32) + x1) (0 : Int32) (τ4.1 x0 13) v1 t0 (v5, τ6) ev5) ?_
    refine q_putI dX13_readCompare_70 fd_X13_420 t0 h (fun τ7 h => ?_)
    refine r_iconst (v := 1) dX13_readCompare_73 (by decide) ?_
    obtain rfl := Option.some.inj h
    exact r_zreturn dX13_readCompare_74 rfl (by decide) hQ (Nat.le_refl _) (Nat.le_refl _)
  · refine r_iconst (v := 0) dX13_readCompare_53 (by decide) ?_
    obtain rfl := Option.some.inj h
    exact r_zreturn dX13_readCompare_54 rfl (by decide) hQ (Nat.le_refl _) (Nat.le_refl _)
theorem kX13_readCompare {l : Launch} {G : gg} {Γ : ly} {σ : mm} (d : Nat) (hdd : 3 ≤ d) (x0 : Nat) (x1 : Int32) (t0 : tyOK Γ (0, 12) x0) (r : (Int32 × mm)) (h : fX13_readCompare Γ.2 σ x0 x1 = some r) : CT l G yX13_readCompare cX13_readCompare 3 (some .boolean) d 0 0 [.ref (G.2.1 x0), .int x1] Γ σ (PP (some (.int r.1)) Γ r.2) := by
  refine CT.ofWP (by decide) (Nat.le_of_ble_eq_true rfl) ?_
  have hQ : PP (some (.int r.1)) Γ r.2 (some (.int r.1)) Γ r.2 := PP.self
  generalize PP (some (.int r.1)) Γ r.2 = Q at hQ ⊢
  show WP l G yX13_readCompare cX13_readCompare 3 (some .boolean) d 0 0 Q 0 0 0 [(0, .ref (G.2.1 x0)), (1, .int x1)] [] Γ σ
  unfold fX13_readCompare at h
  refine r_aload_n 0 dX13_readCompare_0 rfl ?_
  refine r_bipush (v := 60) dX13_readCompare_1 (by decide) ?_
  obtain ⟨v1, ev1, h⟩ := bd0_some h
  refine q_cVI [.int (60 : Int32)] dX13_readCompare_3 cv_X13_86 (ci := 12) rfl rfl t0 rfl rfl (Nat.le_of_ble_eq_true rfl) (by omega) (kX13_isSign (d - 1) (by omega) x0 (60 : Int32) t0 v1 ev1) ?_
  refine r_if_ne 33 dX13_readCompare_6 (by decide) h (fun _ h => ?_) (fun _ h => ?_)
  · exact tX13_readCompare_b33 hdd σ x0 x1 t0 _ h hQ
  · refine r_aload_n 0 dX13_readCompare_9 rfl ?_
    refine r_bipush (v := 61) dX13_readCompare_10 (by decide) ?_
    obtain ⟨v2, ev2, h⟩ := bd0_some h
    refine q_cVI [.int (61 : Int32)] dX13_readCompare_12 cv_X13_86 (ci := 12) rfl rfl t0 rfl rfl (Nat.le_of_ble_eq_true rfl) (by omega) (kX13_isSign (d - 1) (by omega) x0 (61 : Int32) t0 v2 ev2) ?_
    refine r_if_ne 33 dX13_readCompare_15 (by decide) h (fun _ h => ?_) (fun _ h => ?_)
    · exact tX13_readCompare_b33 hdd σ x0 x1 t0 _ h hQ
    · refine r_aload_n 0 dX13_readCompare_18 rfl ?_
      refine r_bipush (v := 62) dX13_readCompare_19 (by decide) ?_
      obtain ⟨v3, ev3, h⟩ := bd0_some h
      refine q_cVI [.int (62 : Int32)] dX13_readCompare_21 cv_X13_86 (ci := 12) rfl rfl t0 rfl rfl (Nat.le_of_ble_eq_true rfl) (by omega) (kX13_isSign (d - 1) (by omega) x0 (62 : Int32) t0 v3 ev3) ?_
      refine r_if_ne 33 dX13_readCompare_24 (by decide) h (fun _ h => ?_) (fun _ h => ?_)
      · exact tX13_readCompare_b33 hdd σ x0 x1 t0 _ h hQ
      · refine r_aload_n 0 dX13_readCompare_27 rfl ?_
        refine r_iconst (v := 1) dX13_readCompare_28 (by decide) ?_
        obtain ⟨v4, τ5, ev4, h⟩ := bd2_some h
        refine q_cVI [.int (1 : Int32)] dX13_readCompare_29 cv_X13_72 (ci := 12) rfl rfl t0 rfl rfl (Nat.le_of_ble_eq_true rfl) (by omega) (kX13_bad (d - 1) (by omega) x0 (1 : Int32) t0 (v4, τ5) ev4) ?_
        obtain ⟨hbz, h⟩ := rZ_some h
        obtain rfl := Option.some.inj h
        exact r_zreturn dX13_readCompare_32 rfl hbz hQ (Nat.le_refl _) (Nat.le_refl _)
theorem kX13_readNot {l : Launch} {G : gg} {Γ : ly} {σ : mm} (d : Nat) (hdd : 5 ≤ d) {F : Nat → mm → Nat → Option (Int32 × mm)} {e : Nat} (hde : e + 1 ≤ d) (hF0 : ∀ (d : Nat), e ≤ d → ∀ (σ : mm) (x0 : Nat), tyOK Γ (0, 12) x0 → ∀ r, F 0 σ x0 = some r → CT l G yX13_readAnd cX13_readAnd 2 (some .boolean) d 0 0 [.ref (G.2.1 x0)] Γ σ (PP (some (.int r.1)) Γ r.2)) (hF1 : ∀ (d : Nat), e ≤ d → ∀ (σ : mm) (x0 : Nat), tyOK Γ (0, 12) x0 → ∀ r, F 1 σ x0 = some r → CT l G yX13_readBracket cX13_readBracket 1 (some .boolean) d 0 0 [.ref (G.2.1 x0)] Γ σ (PP (some (.int r.1)) Γ r.2)) (hF2 : ∀ (d : Nat), e ≤ d → ∀ (σ : mm) (x0 : Nat), tyOK Γ (0, 12) x0 → ∀ r, F 2 σ x0 = some r → CT l G yX13_readNot cX13_readNot 1 (some .boolean) d 0 0 [.ref (G.2.1 x0)] Γ σ (PP (some (.int r.1)) Γ r.2)) (hF3 : ∀ (d : Nat), e ≤ d → ∀ (σ : mm) (x0 : Nat), tyOK Γ (0, 12) x0 → ∀ r, F 3 σ x0 = some r → CT l G yX13_readOr cX13_readOr 2 (some .boolean) d 0 0 [.ref (G.2.1 x0)] Γ σ (PP (some (.int r.1)) Γ r.2)) (hF4 : ∀ (d : Nat), e ≤ d → ∀ (σ : mm) (x0 : Nat), tyOK Γ (0, 12) x0 → ∀ r, F 4 σ x0 = some r → CT l G yX13_readSaid cX13_readSaid 4 (some .boolean) d 0 0 [.ref (G.2.1 x0)] Γ σ (PP (some (.int r.1)) Γ r.2)) (x0 : Nat) (t0 : tyOK Γ (0, 12) x0) (r : (Int32 × mm)) (h : fX13_readNot F Γ.2 σ x0 = some r) : CT l G yX13_readNot cX13_readNot 1 (some .boolean) d 0 0 [.ref (G.2.1 x0)] Γ σ (PP (some (.int r.1)) Γ r.2) := by
  refine CT.ofWP (by decide) (Nat.le_of_ble_eq_true rfl) ?_
  have hQ : PP (some (.int r.1)) Γ r.2 (some (.int r.1)) Γ r.2 := PP.self
  generalize PP (some (.int r.1)) Γ r.2 = Q at hQ ⊢
  show WP l G yX13_readNot cX13_readNot 1 (some .boolean) d 0 0 Q 0 0 0 [(0, .ref (G.2.1 x0))] [] Γ σ
  unfold fX13_readNot at h
  refine r_aload_n 0 dX13_readNot_0 rfl ?_
  obtain ⟨v1, τ2, ev1, h⟩ := bd2_some h
  refine q_cVI [] dX13_readNot_1 cv_X13_427 (ci := 12) rfl rfl t0 rfl rfl (Nat.le_of_ble_eq_true rfl) (by omega) (hF4 (d - 1) (by omega) σ x0 t0 (v1, τ2) ev1) ?_
  refine r_if_ne 9 dX13_readNot_4 (by decide) h (fun _ h => ?_) (fun _ h => ?_)
  · refine r_aload_n 0 dX13_readNot_9 rfl ?_
    refine r_aload_n 0 dX13_readNot_10 rfl ?_
    refine r_iconst (v := 1) dX13_readNot_11 (by decide) ?_
    refine r_aload_n 0 dX13_readNot_12 rfl ?_
    refine r_getI dX13_readNot_13 fd_X13_420 t0 ?_
    refine r_iconst (v := 0) dX13_readNot_16 (by decide) ?_
    refine r_iconst (v := 0) dX13_readNot_17 (by decide) ?_
    obtain ⟨v3, τ4, ev3, h⟩ := bd2_some h
    refine q_cVI [.int (1 : Int32), .int (τ2.1 x0 42), .int (0 : Int32), .int (0 : Int32)] dX13_readNot_18 cv_X13_423 (ci := 12) rfl rfl t0 rfl rfl (Nat.le_of_ble_eq_true rfl) (by omega) (kX13_saysOne (d - 1) (by omega) x0 (1 : Int32) (τ2.1 x0 42) (0 : Int32) (0 : Int32) t0 (v3, τ4) ev3) ?_
    refine q_putI dX13_readNot_21 fd_X13_420 t0 h (fun τ5 h => ?_)
    refine r_iconst (v := 1) dX13_readNot_24 (by decide) ?_
    obtain rfl := Option.some.inj h
    exact r_zreturn dX13_readNot_25 rfl (by decide) hQ (Nat.le_refl _) (Nat.le_refl _)
  · refine r_iconst (v := 0) dX13_readNot_7 (by decide) ?_
    obtain rfl := Option.some.inj h
    exact r_zreturn dX13_readNot_8 rfl (by decide) hQ (Nat.le_refl _) (Nat.le_refl _)
theorem kX13_readOf {l : Launch} {G : gg} {Γ : ly} {σ : mm} (d : Nat) (hdd : 4 ≤ d) (x0 : Nat) (x1 : Int32) (t0 : tyOK Γ (0, 12) x0) (r : (Int32 × mm)) (h : fX13_readOf Γ.2 σ x0 x1 = some r) : CT l G yX13_readOf cX13_readOf 2 (some .boolean) d 0 0 [.ref (G.2.1 x0), .int x1] Γ σ (PP (some (.int r.1)) Γ r.2) := by
  refine CT.ofWP (by decide) (Nat.le_of_ble_eq_true rfl) ?_
  have hQ : PP (some (.int r.1)) Γ r.2 (some (.int r.1)) Γ r.2 := PP.self
  generalize PP (some (.int r.1)) Γ r.2 = Q at hQ ⊢
  show WP l G yX13_readOf cX13_readOf 2 (some .boolean) d 0 0 Q 0 0 0 [(0, .ref (G.2.1 x0)), (1, .int x1)] [] Γ σ
  unfold fX13_readOf at h
  refine r_aload_n 0 dX13_readOf_0 rfl ?_
  refine r_iconst (v := 0) dX13_readOf_1 (by decide) ?_
  refine r_aload_n 0 dX13_readOf_2 rfl ?_
  refine q_getR (e9 := (1, 0)) dX13_readOf_3 fd_X13_98 t0 rfl h (fun r1 tr1 h => ?_)
  refine r_iconst (v := 0) dX13_readOf_6 (by decide) ?_
  refine q_iald dX13_readOf_7 tr1 h (fun v2 h => ?_)
  obtain ⟨v3, τ4, ev3, h⟩ := bd2_some h
  refine q_cVI [.int (0 : Int32), .int v2] dX13_readOf_8 cv_X13_451 (ci := 12) rfl rfl t0 rfl rfl (Nat.le_of_ble_eq_true rfl) (by omega) (kX13_readNamed (d - 1) (by omega) x0 (0 : Int32) v2 t0 (v3, τ4) ev3) ?_
  refine r_if_ne 16 dX13_readOf_11 (by decide) h (fun _ h => ?_) (fun _ h => ?_)
  · refine r_aload_n 0 dX13_readOf_16 rfl ?_
    refine r_aload_n 0 dX13_readOf_17 rfl ?_
    refine r_bipush (v := 50) dX13_readOf_18 (by decide) ?_
    refine r_iload_n 1 dX13_readOf_20 rfl ?_
    refine r_iadd dX13_readOf_21 ?_
    refine r_aload_n 0 dX13_readOf_22 rfl ?_
    refine r_getI dX13_readOf_23 fd_X13_79 t0 ?_
    refine r_iconst (v := 0) dX13_readOf_26 (by decide) ?_
    refine r_iconst (v := 0) dX13_readOf_27 (by decide) ?_
    obtain ⟨v5, τ6, ev5, h⟩ := bd2_some h
    refine q_cVI [.int ((50 : Int32) + x1), .int (τ4.1 x0 13), .int (0 : Int32), .int (0 : Int32)] dX13_readOf_28 cv_X13_423 (ci := 12) rfl rfl t0 rfl rfl (Nat.le_of_ble_eq_true rfl) (by omega) (kX13_saysOne (d - 1) (by omega) x0 ((50 : Int32) + x1) (τ4.1 x0 13) (0 : Int32) (0 : Int32) t0 (v5, τ6) ev5) ?_
    refine q_putI dX13_readOf_31 fd_X13_420 t0 h (fun τ7 h => ?_)
    refine r_iconst (v := 1) dX13_readOf_34 (by decide) ?_
    obtain rfl := Option.some.inj h
    exact r_zreturn dX13_readOf_35 rfl (by decide) hQ (Nat.le_refl _) (Nat.le_refl _)
  · refine r_iconst (v := 0) dX13_readOf_14 (by decide) ?_
    obtain rfl := Option.some.inj h
    exact r_zreturn dX13_readOf_15 rfl (by decide) hQ (Nat.le_refl _) (Nat.le_refl _)
theorem sX13_readSaid_L10 {l : Launch} {G : gg} {Γ : ly} {d : Nat} {Q : Option Value → ly → mm → Prop} (hdd : 5 ≤ d) {F : Nat → mm → Nat → Option (Int32 × mm)} {e : Nat} (hde : e + 1 ≤ d) (hF0 : ∀ (d : Nat), e ≤ d → ∀ (σ : mm) (x0 : Nat), tyOK Γ (0, 12) x0 → ∀ r, F 0 σ x0 = some r → CT l G yX13_readAnd cX13_readAnd 2 (some .boolean) d 0 0 [.ref (G.2.1 x0)] Γ σ (PP (some (.int r.1)) Γ r.2)) (hF1 : ∀ (d : Nat), e ≤ d → ∀ (σ : mm) (x0 : Nat), tyOK Γ (0, 12) x0 → ∀ r, F 1 σ x0 = some r → CT l G yX13_readBracket cX13_readBracket 1 (some .boolean) d 0 0 [.ref (G.2.1 x0)] Γ σ (PP (some (.int r.1)) Γ r.2)) (hF2 : ∀ (d : Nat), e ≤ d → ∀ (σ : mm) (x0 : Nat), tyOK Γ (0, 12) x0 → ∀ r, F 2 σ x0 = some r → CT l G yX13_readNot cX13_readNot 1 (some .boolean) d 0 0 [.ref (G.2.1 x0)] Γ σ (PP (some (.int r.1)) Γ r.2)) (hF3 : ∀ (d : Nat), e ≤ d → ∀ (σ : mm) (x0 : Nat), tyOK Γ (0, 12) x0 → ∀ r, F 3 σ x0 = some r → CT l G yX13_readOr cX13_readOr 2 (some .boolean) d 0 0 [.ref (G.2.1 x0)] Γ σ (PP (some (.int r.1)) Γ r.2)) (hF4 : ∀ (d : Nat), e ≤ d → ∀ (σ : mm) (x0 : Nat), tyOK Γ (0, 12) x0 → ∀ r, F 4 σ x0 = some r → CT l G yX13_readSaid cX13_readSaid 4 (some .boolean) d 0 0 [.ref (G.2.1 x0)] Γ σ (PP (some (.int r.1)) Γ r.2)) (σ : mm) (x0 : Nat) (x1 : Int32) (t0 : tyOK Γ (0, 12) x0) {K : Int32 → Prop} (kx0 : ∀ (x2 : Int32), K x2 → WP l G yX13_readSaid cX13_readSaid 4 (some .boolean) d 0 0 Q 0 0 30 [(0, .ref (G.2.1 x0)), (1, .int x1), (2, .int x2)] [] Γ σ) : ∀ (N : Nat) (s : Int32) (b : Int32), loopN (fX13_readSaid_L10 F Γ.2 σ x0 x1) N s = some b → K b → WP l G yX13_readSaid cX13_readSaid 4 (some .boolean) d 0 0 Q 0 0 10 [(0, .ref (G.2.1 x0)), (1, .int x1), (2, .int s)] [] Γ σ := by
  refine r_loop (f := fX13_readSaid_L10 F Γ.2 σ x0 x1) (hlv := fun s => [(0, .ref (G.2.1 x0)), (1, .int x1), (2, .int s)]) (hsg := fun s => σ) ?_
  rintro x2 r h hb hx
  have hx0 : ∀ (x2 : Int32), r = .inr x2 → WP l G yX13_readSaid cX13_readSaid 4 (some .boolean) d 0 0 Q 0 0 30 [(0, .ref (G.2.1 x0)), (1, .int x1), (2, .int x2)] [] Γ σ := fun x2 e => kx0 x2 (hx _ e)
  unfold fX13_readSaid_L10 at h
  show WP l G yX13_readSaid cX13_readSaid 4 (some .boolean) d 0 0 Q 0 0 10 [(0, .ref (G.2.1 x0)), (1, .int x1), (2, .int x2)] [] Γ σ
  refine r_iload_n 2 dX13_readSaid_10 rfl ?_
  refine r_bipush (v := 28) dX13_readSaid_11 (by decide) ?_
  refine r_icmp_gt 30 dX13_readSaid_13 (by decide) h (fun _ h => ?_) (fun _ h => ?_)
  · obtain rfl := Option.some.inj h
    exact hx0 _ rfl
  · refine r_aload_n 0 dX13_readSaid_16 rfl ?_
    refine r_iload_n 2 dX13_readSaid_17 rfl ?_
    obtain ⟨v1, ev1, h⟩ := bd0_some h
    refine q_cVI [.int x2] dX13_readSaid_18 cv_X13_191 (ci := 12) rfl rfl t0 rfl rfl (Nat.le_of_ble_eq_true rfl) (by omega) (kX13_isWord (d - 1) (by omega) x0 x2 t0 v1 ev1) ?_
    refine r_if_ne 30 dX13_readSaid_21 (by decide) h (fun _ h => ?_) (fun _ h => ?_)
    · obtain rfl := Option.some.inj h
      exact hx0 _ rfl
    · refine q_iinc (v := 1) 2 (fun v2 => [(2, .int v2), (0, .ref (G.2.1 x0)), (1, .int x1)]) dX13_readSaid_24 rfl (by decide) (by decide) (fun _ => rfl) h (fun v2 h => ?_)
      refine r_goto 10 dX13_readSaid_27 (by decide) ?_
      obtain rfl := Option.some.inj h
      refine r_pick [1, 2, 0] rfl ?_
      exact hb _ rfl
theorem tX13_readSaid_b64 {l : Launch} {G : gg} {Γ : ly} {d : Nat} {Q : Option Value → ly → mm → Prop} (hdd : 5 ≤ d) {F : Nat → mm → Nat → Option (Int32 × mm)} {e : Nat} (hde : e + 1 ≤ d) (hF0 : ∀ (d : Nat), e ≤ d → ∀ (σ : mm) (x0 : Nat), tyOK Γ (0, 12) x0 → ∀ r, F 0 σ x0 = some r → CT l G yX13_readAnd cX13_readAnd 2 (some .boolean) d 0 0 [.ref (G.2.1 x0)] Γ σ (PP (some (.int r.1)) Γ r.2)) (hF1 : ∀ (d : Nat), e ≤ d → ∀ (σ : mm) (x0 : Nat), tyOK Γ (0, 12) x0 → ∀ r, F 1 σ x0 = some r → CT l G yX13_readBracket cX13_readBracket 1 (some .boolean) d 0 0 [.ref (G.2.1 x0)] Γ σ (PP (some (.int r.1)) Γ r.2)) (hF2 : ∀ (d : Nat), e ≤ d → ∀ (σ : mm) (x0 : Nat), tyOK Γ (0, 12) x0 → ∀ r, F 2 σ x0 = some r → CT l G yX13_readNot cX13_readNot 1 (some .boolean) d 0 0 [.ref (G.2.1 x0)] Γ σ (PP (some (.int r.1)) Γ r.2)) (hF3 : ∀ (d : Nat), e ≤ d → ∀ (σ : mm) (x0 : Nat), tyOK Γ (0, 12) x0 → ∀ r, F 3 σ x0 = some r → CT l G yX13_readOr cX13_readOr 2 (some .boolean) d 0 0 [.ref (G.2.1 x0)] Γ σ (PP (some (.int r.1)) Γ r.2)) (hF4 : ∀ (d : Nat), e ≤ d → ∀ (σ : mm) (x0 : Nat), tyOK Γ (0, 12) x0 → ∀ r, F 4 σ x0 = some r → CT l G yX13_readSaid cX13_readSaid 4 (some .boolean) d 0 0 [.ref (G.2.1 x0)] Γ σ (PP (some (.int r.1)) Γ r.2)) (σ : mm) (x0 : Nat)  (t0 : tyOK Γ (0, 12) x0)  (r : (Int32 × mm)) (h : fX13_readSaid_b64 F Γ.2 σ x0 = some r) (hQ : Q (some (.int r.1)) Γ r.2) : WP l G yX13_readSaid cX13_readSaid 4 (some .boolean) d 0 0 Q 0 0 64 [(0, .ref (G.2.1 x0))] [] Γ σ := by
  unfold fX13_readSaid_b64 at h
  refine r_aload_n 0 dX13_readSaid_64 rfl ?_
  refine r_iconst (v := 4) dX13_readSaid_65 (by decide) ?_
  obtain ⟨v1, τ2, ev1, h⟩ := bd2_some h
  refine q_cVI [.int (4 : Int32)] dX13_readSaid_66 cv_X13_72 (ci := 12) rfl rfl t0 rfl rfl (Nat.le_of_ble_eq_true rfl) (by omega) (kX13_bad (d - 1) (by omega) x0 (4 : Int32) t0 (v1, τ2) ev1) ?_
  obtain ⟨hbz, h⟩ := rZ_some h
  obtain rfl := Option.some.inj h
  exact r_zreturn dX13_readSaid_69 rfl hbz hQ (Nat.le_refl _) (Nat.le_refl _)
theorem tX13_readSaid_b166 {l : Launch} {G : gg} {Γ : ly} {d : Nat} {Q : Option Value → ly → mm → Prop} (hdd : 5 ≤ d) {F : Nat → mm → Nat → Option (Int32 × mm)} {e : Nat} (hde : e + 1 ≤ d) (hF0 : ∀ (d : Nat), e ≤ d → ∀ (σ : mm) (x0 : Nat), tyOK Γ (0, 12) x0 → ∀ r, F 0 σ x0 = some r → CT l G yX13_readAnd cX13_readAnd 2 (some .boolean) d 0 0 [.ref (G.2.1 x0)] Γ σ (PP (some (.int r.1)) Γ r.2)) (hF1 : ∀ (d : Nat), e ≤ d → ∀ (σ : mm) (x0 : Nat), tyOK Γ (0, 12) x0 → ∀ r, F 1 σ x0 = some r → CT l G yX13_readBracket cX13_readBracket 1 (some .boolean) d 0 0 [.ref (G.2.1 x0)] Γ σ (PP (some (.int r.1)) Γ r.2)) (hF2 : ∀ (d : Nat), e ≤ d → ∀ (σ : mm) (x0 : Nat), tyOK Γ (0, 12) x0 → ∀ r, F 2 σ x0 = some r → CT l G yX13_readNot cX13_readNot 1 (some .boolean) d 0 0 [.ref (G.2.1 x0)] Γ σ (PP (some (.int r.1)) Γ r.2)) (hF3 : ∀ (d : Nat), e ≤ d → ∀ (σ : mm) (x0 : Nat), tyOK Γ (0, 12) x0 → ∀ r, F 3 σ x0 = some r → CT l G yX13_readOr cX13_readOr 2 (some .boolean) d 0 0 [.ref (G.2.1 x0)] Γ σ (PP (some (.int r.1)) Γ r.2)) (hF4 : ∀ (d : Nat), e ≤ d → ∀ (σ : mm) (x0 : Nat), tyOK Γ (0, 12) x0 → ∀ r, F 4 σ x0 = some r → CT l G yX13_readSaid cX13_readSaid 4 (some .boolean) d 0 0 [.ref (G.2.1 x0)] Γ σ (PP (some (.int r.1)) Γ r.2)) (σ : mm) (x0 : Nat) (x3 : Int32)  (t0 : tyOK Γ (0, 12) x0)  (r : (Int32 × mm)) (h : fX13_readSaid_b166 F Γ.2 σ x0 x3 = some r) (hQ : Q (some (.int r.1)) Γ r.2) : WP l G yX13_readSaid cX13_readSaid 4 (some .boolean) d 0 0 Q 0 0 166 [(0, .ref (G.2.1 x0)), (3, .int x3)] [] Γ σ := by
  unfold fX13_readSaid_b166 at h
  refine r_aload_n 0 dX13_readSaid_166 rfl ?_
  refine r_dup dX13_readSaid_167 rfl ?_
  refine r_getI dX13_readSaid_168 fd_X13_433 t0 ?_
  refine r_iconst (v := 1) dX13_readSaid_171 (by decide) ?_
  refine r_isub dX13_readSaid_172 ?_
  refine q_putI dX13_readSaid_173 fd_X13_433 t0 h (fun τ1 h => ?_)
  refine r_iload_n 1 dX13_readSaid_176 rfl ?_
  obtain ⟨hbz, h⟩ := rZ_some h
  obtain rfl := Option.some.inj h
  exact r_zreturn dX13_readSaid_177 rfl hbz hQ (Nat.le_refl _) (Nat.le_refl _)
theorem tX13_readSaid_b165 {l : Launch} {G : gg} {Γ : ly} {d : Nat} {Q : Option Value → ly → mm → Prop} (hdd : 5 ≤ d) {F : Nat → mm → Nat → Option (Int32 × mm)} {e : Nat} (hde : e + 1 ≤ d) (hF0 : ∀ (d : Nat), e ≤ d → ∀ (σ : mm) (x0 : Nat), tyOK Γ (0, 12) x0 → ∀ r, F 0 σ x0 = some r → CT l G yX13_readAnd cX13_readAnd 2 (some .boolean) d 0 0 [.ref (G.2.1 x0)] Γ σ (PP (some (.int r.1)) Γ r.2)) (hF1 : ∀ (d : Nat), e ≤ d → ∀ (σ : mm) (x0 : Nat), tyOK Γ (0, 12) x0 → ∀ r, F 1 σ x0 = some r → CT l G yX13_readBracket cX13_readBracket 1 (some .boolean) d 0 0 [.ref (G.2.1 x0)] Γ σ (PP (some (.int r.1)) Γ r.2)) (hF2 : ∀ (d : Nat), e ≤ d → ∀ (σ : mm) (x0 : Nat), tyOK Γ (0, 12) x0 → ∀ r, F 2 σ x0 = some r → CT l G yX13_readNot cX13_readNot 1 (some .boolean) d 0 0 [.ref (G.2.1 x0)] Γ σ (PP (some (.int r.1)) Γ r.2)) (hF3 : ∀ (d : Nat), e ≤ d → ∀ (σ : mm) (x0 : Nat), tyOK Γ (0, 12) x0 → ∀ r, F 3 σ x0 = some r → CT l G yX13_readOr cX13_readOr 2 (some .boolean) d 0 0 [.ref (G.2.1 x0)] Γ σ (PP (some (.int r.1)) Γ r.2)) (hF4 : ∀ (d : Nat), e ≤ d → ∀ (σ : mm) (x0 : Nat), tyOK Γ (0, 12) x0 → ∀ r, F 4 σ x0 = some r → CT l G yX13_readSaid cX13_readSaid 4 (some .boolean) d 0 0 [.ref (G.2.1 x0)] Γ σ (PP (some (.int r.1)) Γ r.2)) (σ : mm) (x0 : Nat) (s0 : Int32) (t0 : tyOK Γ (0, 12) x0)  (r : (Int32 × mm)) (h : fX13_readSaid_b165 F Γ.2 σ x0 s0 = some r) (hQ : Q (some (.int r.1)) Γ r.2) : WP l G yX13_readSaid cX13_readSaid 4 (some .boolean) d 0 0 Q 0 0 165 [(0, .ref (G.2.1 x0))] [.int s0] Γ σ := by
  unfold fX13_readSaid_b165 at h
  refine r_istore_n (lv' := [(3, .int s0), (0, .ref (G.2.1 x0))]) dX13_readSaid_165 (by decide) rfl ?_
  refine r_pick [1, 0] rfl ?_
  exact tX13_readSaid_b166 hdd hde hF0 hF1 hF2 hF3 hF4 σ x0 s0 t0 _ h hQ
theorem tX13_readSaid_b46 {l : Launch} {G : gg} {Γ : ly} {d : Nat} {Q : Option Value → ly → mm → Prop} (hdd : 5 ≤ d) {F : Nat → mm → Nat → Option (Int32 × mm)} {e : Nat} (hde : e + 1 ≤ d) (hF0 : ∀ (d : Nat), e ≤ d → ∀ (σ : mm) (x0 : Nat), tyOK Γ (0, 12) x0 → ∀ r, F 0 σ x0 = some r → CT l G yX13_readAnd cX13_readAnd 2 (some .boolean) d 0 0 [.ref (G.2.1 x0)] Γ σ (PP (some (.int r.1)) Γ r.2)) (hF1 : ∀ (d : Nat), e ≤ d → ∀ (σ : mm) (x0 : Nat), tyOK Γ (0, 12) x0 → ∀ r, F 1 σ x0 = some r → CT l G yX13_readBracket cX13_readBracket 1 (some .boolean) d 0 0 [.ref (G.2.1 x0)] Γ σ (PP (some (.int r.1)) Γ r.2)) (hF2 : ∀ (d : Nat), e ≤ d → ∀ (σ : mm) (x0 : Nat), tyOK Γ (0, 12) x0 → ∀ r, F 2 σ x0 = some r → CT l G yX13_readNot cX13_readNot 1 (some .boolean) d 0 0 [.ref (G.2.1 x0)] Γ σ (PP (some (.int r.1)) Γ r.2)) (hF3 : ∀ (d : Nat), e ≤ d → ∀ (σ : mm) (x0 : Nat), tyOK Γ (0, 12) x0 → ∀ r, F 3 σ x0 = some r → CT l G yX13_readOr cX13_readOr 2 (some .boolean) d 0 0 [.ref (G.2.1 x0)] Γ σ (PP (some (.int r.1)) Γ r.2)) (hF4 : ∀ (d : Nat), e ≤ d → ∀ (σ : mm) (x0 : Nat), tyOK Γ (0, 12) x0 → ∀ r, F 4 σ x0 = some r → CT l G yX13_readSaid cX13_readSaid 4 (some .boolean) d 0 0 [.ref (G.2.1 x0)] Γ σ (PP (some (.int r.1)) Γ r.2)) (σ : mm) (x0 : Nat) (x1 : Int32) (x2 : Int32)  (t0 : tyOK Γ (0, 12) x0)  (r : (Int32 × mm)) (h : fX13_readSaid_b46 F Γ.2 σ x0 x1 x2 = some r) (hQ : Q (some (.int r.1)) Γ r.2) : WP l G yX13_readSaid cX13_readSaid 4 (some .boolean) d 0 0 Q 0 0 46 [(0, .ref (G.2.1 x0)), (1, .int x1), (2, .int x2)] [] Γ σ := by
  unfold fX13_readSaid_b46 at h
  refine r_aload_n 0 dX13_readSaid_46 rfl ?_
  refine r_getI dX13_readSaid_47 fd_X13_430 t0 ?_
  refine r_bipush (v := 20) dX13_readSaid_50 (by decide) ?_
  refine r_icmp_eq 64 dX13_readSaid_52 (by decide) h (fun _ h => ?_) (fun _ h => ?_)
  · refine r_pick [0] rfl ?_
    exact tX13_readSaid_b64 hdd hde hF0 hF1 hF2 hF3 hF4 σ x0 t0 _ h hQ
  · refine r_aload_n 0 dX13_readSaid_55 rfl ?_
    refine r_getI dX13_readSaid_56 fd_X13_433 t0 ?_
    refine r_bipush (v := 8) dX13_readSaid_59 (by decide) ?_
    refine r_icmp_ne 70 dX13_readSaid_61 (by decide) h (fun _ h => ?_) (fun _ h => ?_)
    · refine r_aload_n 0 dX13_readSaid_70 rfl ?_
      refine r_dup dX13_readSaid_71 rfl ?_
      refine r_getI dX13_readSaid_72 fd_X13_430 t0 ?_
      refine r_iconst (v := 1) dX13_readSaid_75 (by decide) ?_
      refine r_iadd dX13_readSaid_76 ?_
      refine q_putI dX13_readSaid_77 fd_X13_430 t0 h (fun τ1 h => ?_)
      refine r_aload_n 0 dX13_readSaid_80 rfl ?_
      refine r_dup dX13_readSaid_81 rfl ?_
      refine r_getI dX13_readSaid_82 fd_X13_433 t0 ?_
      refine r_iconst (v := 1) dX13_readSaid_85 (by decide) ?_
      refine r_iadd dX13_readSaid_86 ?_
      refine q_putI dX13_readSaid_87 fd_X13_433 t0 h (fun τ2 h => ?_)
      refine r_aload_n 0 dX13_readSaid_90 rfl ?_
      obtain ⟨τ3, eτ3, h⟩ := bd0_some h
      refine q_cVV [] dX13_readSaid_91 cv_X13_82 (ci := 12) rfl rfl t0 rfl rfl (Nat.le_of_ble_eq_true rfl) (by omega) (kX13_go (d - 1) (by omega) x0 t0 τ3 eτ3) ?_
      refine r_iconst (v := 1) dX13_readSaid_94 (by decide) ?_
      refine r_istore_n (lv' := [(3, .int (1 : Int32)), (0, .ref (G.2.1 x0)), (1, .int x1), (2, .int x2)]) dX13_readSaid_95 (by decide) rfl ?_
      refine r_iload_n 2 dX13_readSaid_96 rfl ?_
      refine r_if_eq 108 dX13_readSaid_97 (by decide) h (fun _ h => ?_) (fun _ h => ?_)
      · refine r_iload_n 3 dX13_readSaid_108 rfl ?_
        refine r_bipush (v := 19) dX13_readSaid_109 (by decide) ?_
        refine r_icmp_ne 122 dX13_readSaid_111 (by decide) h (fun _ h => ?_) (fun _ h => ?_)
        · refine r_iload_n 3 dX13_readSaid_122 rfl ?_
          refine r_bipush (v := 24) dX13_readSaid_123 (by decide) ?_
          refine r_icmp_ge 146 dX13_readSaid_125 (by decide) h (fun _ h => ?_) (fun _ h => ?_)
          · refine r_iload_n 3 dX13_readSaid_146 rfl ?_
            refine r_bipush (v := 25) dX13_readSaid_147 (by decide) ?_
            refine r_icmp_ge 160 dX13_readSaid_149 (by decide) h (fun _ h => ?_) (fun _ h => ?_)
            · refine r_aload_n 1 dX13_readSaid_160 rfl ?_
              refine r_iload_n 3 dX13_readSaid_161 rfl ?_
              obtain ⟨v4, τ5, ev4, h⟩ := bd2_some h
              refine q_cVI [.int x2] dX13_readSaid_162 cv_X13_445 (ci := 12) rfl rfl t0 rfl rfl (Nat.le_of_ble_eq_true rfl) (by omega) (kX13_readCompare (d - 1) (by omega) x0 x2 t0 (v4, τ5) ev4) ?_
              refine r_pick [1] rfl ?_
              exact tX13_readSaid_b165 hdd hde hF0 hF1 hF2 hF3 hF4 τ5 x0 v4 t0 _ h hQ
            · refine r_aload_n 1 dX13_readSaid_152 rfl ?_
              refine r_iload_n 3 dX13_readSaid_153 rfl ?_
              obtain ⟨v6, τ7, ev6, h⟩ := bd2_some h
              refine q_cVI [.int x2] dX13_readSaid_154 cv_X13_442 (ci := 12) rfl rfl t0 rfl rfl (Nat.le_of_ble_eq_true rfl) (by omega) (kX13_readOf (d - 1) (by omega) x0 x2 t0 (v6, τ7) ev6) ?_
              refine r_goto 165 dX13_readSaid_157 (by decide) ?_
              refine r_pick [1] rfl ?_
              exact tX13_readSaid_b165 hdd hde hF0 hF1 hF2 hF3 hF4 τ7 x0 v6 t0 _ h hQ
          · refine r_aload_n 1 dX13_readSaid_128 rfl ?_
            refine r_aload_n 1 dX13_readSaid_129 rfl ?_
            refine r_bipush (v := 50) dX13_readSaid_130 (by decide) ?_
            refine r_iload_n 3 dX13_readSaid_132 rfl ?_
            refine r_iadd dX13_readSaid_133 ?_
            refine r_iconst (v := 0) dX13_readSaid_134 (by decide) ?_
            refine r_iconst (v := 0) dX13_readSaid_135 (by decide) ?_
            refine r_iconst (v := 0) dX13_readSaid_136 (by decide) ?_
            obtain ⟨v8, τ9, ev8, h⟩ := bd2_some h
            refine q_cVI [.int ((50 : Int32) + x2), .int (0 : Int32), .int (0 : Int32), .int (0 : Int32)] dX13_readSaid_137 cv_X13_423 (ci := 12) rfl rfl t0 rfl rfl (Nat.le_of_ble_eq_true rfl) (by omega) (kX13_saysOne (d - 1) (by omega) x0 ((50 : Int32) + x2) (0 : Int32) (0 : Int32) (0 : Int32) t0 (v8, τ9) ev8) ?_
            refine q_putI dX13_readSaid_140 fd_X13_420 t0 h (fun τ10 h => ?_)
            refine r_goto 166 dX13_readSaid_143 (by decide) ?_
            refine r_pick [1, 0] rfl ?_
            exact tX13_readSaid_b166 hdd hde hF0 hF1 hF2 hF3 hF4 τ10 x0 (1 : Int32) t0 _ h hQ
        · refine r_aload_n 1 dX13_readSaid_114 rfl ?_
          obtain ⟨v11, τ12, ev11, h⟩ := bd2_some h
          refine q_cVI [] dX13_readSaid_115 cv_X13_439 (ci := 12) rfl rfl t0 rfl rfl (Nat.le_of_ble_eq_true rfl) (by omega) (hF2 (d - 1) (by omega) τ3 x0 t0 (v11, τ12) ev11) ?_
          refine r_istore_n (lv' := [(3, .int v11), (0, .ref (G.2.1 x0)), (1, .int x1), (2, .int x2)]) dX13_readSaid_118 (by decide) rfl ?_
          refine r_goto 166 dX13_readSaid_119 (by decide) ?_
          refine r_pick [1, 0] rfl ?_
          exact tX13_readSaid_b166 hdd hde hF0 hF1 hF2 hF3 hF4 τ12 x0 v11 t0 _ h hQ
      · refine r_aload_n 1 dX13_readSaid_100 rfl ?_
        obtain ⟨v13, τ14, ev13, h⟩ := bd2_some h
        refine q_cVI [] dX13_readSaid_101 cv_X13_436 (ci := 12) rfl rfl t0 rfl rfl (Nat.le_of_ble_eq_true rfl) (by omega) (hF1 (d - 1) (by omega) τ3 x0 t0 (v13, τ14) ev13) ?_
        refine r_istore_n (lv' := [(3, .int v13), (0, .ref (G.2.1 x0)), (1, .int x1), (2, .int x2)]) dX13_readSaid_104 (by decide) rfl ?_
        refine r_goto 166 dX13_readSaid_105 (by decide) ?_
        refine r_pick [1, 0] rfl ?_
        exact tX13_readSaid_b166 hdd hde hF0 hF1 hF2 hF3 hF4 τ14 x0 v13 t0 _ h hQ
    · refine r_pick [0] rfl ?_
      exact tX13_readSaid_b64 hdd hde hF0 hF1 hF2 hF3 hF4 σ x0 t0 _ h hQ
theorem tX13_readSaid_b30 {l : Launch} {G : gg} {Γ : ly} {d : Nat} {Q : Option Value → ly → mm → Prop} (hdd : 5 ≤ d) {F : Nat → mm → Nat → Option (Int32 × mm)} {e : Nat} (hde : e + 1 ≤ d) (hF0 : ∀ (d : Nat), e ≤ d → ∀ (σ : mm) (x0 : Nat), tyOK Γ (0, 12) x0 → ∀ r, F 0 σ x0 = some r → CT l G yX13_readAnd cX13_readAnd 2 (some .boolean) d 0 0 [.ref (G.2.1 x0)] Γ σ (PP (some (.int r.1)) Γ r.2)) (hF1 : ∀ (d : Nat), e ≤ d → ∀ (σ : mm) (x0 : Nat), tyOK Γ (0, 12) x0 → ∀ r, F 1 σ x0 = some r → CT l G yX13_readBracket cX13_readBracket 1 (some .boolean) d 0 0 [.ref (G.2.1 x0)] Γ σ (PP (some (.int r.1)) Γ r.2)) (hF2 : ∀ (d : Nat), e ≤ d → ∀ (σ : mm) (x0 : Nat), tyOK Γ (0, 12) x0 → ∀ r, F 2 σ x0 = some r → CT l G yX13_readNot cX13_readNot 1 (some .boolean) d 0 0 [.ref (G.2.1 x0)] Γ σ (PP (some (.int r.1)) Γ r.2)) (hF3 : ∀ (d : Nat), e ≤ d → ∀ (σ : mm) (x0 : Nat), tyOK Γ (0, 12) x0 → ∀ r, F 3 σ x0 = some r → CT l G yX13_readOr cX13_readOr 2 (some .boolean) d 0 0 [.ref (G.2.1 x0)] Γ σ (PP (some (.int r.1)) Γ r.2)) (hF4 : ∀ (d : Nat), e ≤ d → ∀ (σ : mm) (x0 : Nat), tyOK Γ (0, 12) x0 → ∀ r, F 4 σ x0 = some r → CT l G yX13_readSaid cX13_readSaid 4 (some .boolean) d 0 0 [.ref (G.2.1 x0)] Γ σ (PP (some (.int r.1)) Γ r.2)) (σ : mm) (x0 : Nat) (x1 : Int32) (x2 : Int32)  (t0 : tyOK Γ (0, 12) x0)  (r : (Int32 × mm)) (h : fX13_readSaid_b30 F Γ.2 σ x0 x1 x2 = some r) (hQ : Q (some (.int r.1)) Γ r.2) : WP l G yX13_readSaid cX13_readSaid 4 (some .boolean) d 0 0 Q 0 0 30 [(0, .ref (G.2.1 x0)), (1, .int x1), (2, .int x2)] [] Γ σ := by
  unfold fX13_readSaid_b30 at h
  refine r_iload_n 1 dX13_readSaid_30 rfl ?_
  refine r_if_ne 46 dX13_readSaid_31 (by decide) h (fun _ h => ?_) (fun _ h => ?_)
  · exact tX13_readSaid_b46 hdd hde hF0 hF1 hF2 hF3 hF4 σ x0 x1 x2 t0 _ h hQ
  · refine r_iload_n 2 dX13_readSaid_34 rfl ?_
    refine r_bipush (v := 28) dX13_readSaid_35 (by decide) ?_
    refine r_icmp_le 46 dX13_readSaid_37 (by decide) h (fun _ h => ?_) (fun _ h => ?_)
    · exact tX13_readSaid_b46 hdd hde hF0 hF1 hF2 hF3 hF4 σ x0 x1 x2 t0 _ h hQ
    · refine r_aload_n 0 dX13_readSaid_40 rfl ?_
      refine r_iconst (v := 1) dX13_readSaid_41 (by decide) ?_
      obtain ⟨v1, τ2, ev1, h⟩ := bd2_some h
      refine q_cVI [.int (1 : Int32)] dX13_readSaid_42 cv_X13_72 (ci := 12) rfl rfl t0 rfl rfl (Nat.le_of_ble_eq_true rfl) (by omega) (kX13_bad (d - 1) (by omega) x0 (1 : Int32) t0 (v1, τ2) ev1) ?_
      obtain ⟨hbz, h⟩ := rZ_some h
      obtain rfl := Option.some.inj h
      exact r_zreturn dX13_readSaid_45 rfl hbz hQ (Nat.le_refl _) (Nat.le_refl _)
theorem kX13_readSaid {l : Launch} {G : gg} {Γ : ly} {σ : mm} (d : Nat) (hdd : 5 ≤ d) {F : Nat → mm → Nat → Option (Int32 × mm)} {e : Nat} (hde : e + 1 ≤ d) (hF0 : ∀ (d : Nat), e ≤ d → ∀ (σ : mm) (x0 : Nat), tyOK Γ (0, 12) x0 → ∀ r, F 0 σ x0 = some r → CT l G yX13_readAnd cX13_readAnd 2 (some .boolean) d 0 0 [.ref (G.2.1 x0)] Γ σ (PP (some (.int r.1)) Γ r.2)) (hF1 : ∀ (d : Nat), e ≤ d → ∀ (σ : mm) (x0 : Nat), tyOK Γ (0, 12) x0 → ∀ r, F 1 σ x0 = some r → CT l G yX13_readBracket cX13_readBracket 1 (some .boolean) d 0 0 [.ref (G.2.1 x0)] Γ σ (PP (some (.int r.1)) Γ r.2)) (hF2 : ∀ (d : Nat), e ≤ d → ∀ (σ : mm) (x0 : Nat), tyOK Γ (0, 12) x0 → ∀ r, F 2 σ x0 = some r → CT l G yX13_readNot cX13_readNot 1 (some .boolean) d 0 0 [.ref (G.2.1 x0)] Γ σ (PP (some (.int r.1)) Γ r.2)) (hF3 : ∀ (d : Nat), e ≤ d → ∀ (σ : mm) (x0 : Nat), tyOK Γ (0, 12) x0 → ∀ r, F 3 σ x0 = some r → CT l G yX13_readOr cX13_readOr 2 (some .boolean) d 0 0 [.ref (G.2.1 x0)] Γ σ (PP (some (.int r.1)) Γ r.2)) (hF4 : ∀ (d : Nat), e ≤ d → ∀ (σ : mm) (x0 : Nat), tyOK Γ (0, 12) x0 → ∀ r, F 4 σ x0 = some r → CT l G yX13_readSaid cX13_readSaid 4 (some .boolean) d 0 0 [.ref (G.2.1 x0)] Γ σ (PP (some (.int r.1)) Γ r.2)) (x0 : Nat) (t0 : tyOK Γ (0, 12) x0) (r : (Int32 × mm)) (h : fX13_readSaid F Γ.2 σ x0 = some r) : CT l G yX13_readSaid cX13_readSaid 4 (some .boolean) d 0 0 [.ref (G.2.1 x0)] Γ σ (PP (some (.int r.1)) Γ r.2) := by
  refine CT.ofWP (by decide) (Nat.le_of_ble_eq_true rfl) ?_
  have hQ : PP (some (.int r.1)) Γ r.2 (some (.int r.1)) Γ r.2 := PP.self
  generalize PP (some (.int r.1)) Γ r.2 = Q at hQ ⊢
  show WP l G yX13_readSaid cX13_readSaid 4 (some .boolean) d 0 0 Q 0 0 0 [(0, .ref (G.2.1 x0))] [] Γ σ
  unfold fX13_readSaid at h
  refine r_aload_n 0 dX13_readSaid_0 rfl ?_
  refine r_bipush (v := 40) dX13_readSaid_1 (by decide) ?_
  obtain ⟨v1, ev1, h⟩ := bd0_some h
  refine q_cVI [.int (40 : Int32)] dX13_readSaid_3 cv_X13_86 (ci := 12) rfl rfl t0 rfl rfl (Nat.le_of_ble_eq_true rfl) (by omega) (kX13_isSign (d - 1) (by omega) x0 (40 : Int32) t0 v1 ev1) ?_
  refine r_istore_n (lv' := [(1, .int v1), (0, .ref (G.2.1 x0))]) dX13_readSaid_6 (by decide) rfl ?_
  refine r_bipush (v := 19) dX13_readSaid_7 (by decide) ?_
  refine r_istore_n (lv' := [(2, .int (19 : Int32)), (1, .int v1), (0, .ref (G.2.1 x0))]) dX13_readSaid_9 (by decide) rfl ?_
  obtain ⟨b2, eb2, h⟩ := bd0_some h
  refine r_pick [2, 1, 0] rfl ?_
  refine sX13_readSaid_L10 hdd hde hF0 hF1 hF2 hF3 hF4 σ x0 v1 t0 (K := fun b => b = b2) ?_ 1000 (19 : Int32) b2 eb2 rfl
  rintro v3 rfl
  exact tX13_readSaid_b30 hdd hde hF0 hF1 hF2 hF3 hF4 σ x0 v1 v3 t0 _ h hQ
theorem sX13_readAnd_L14 {l : Launch} {G : gg} {Γ : ly} {d : Nat} {Q : Option Value → ly → mm → Prop} (hdd : 5 ≤ d) {F : Nat → mm → Nat → Option (Int32 × mm)} {e : Nat} (hde : e + 1 ≤ d) (hF0 : ∀ (d : Nat), e ≤ d → ∀ (σ : mm) (x0 : Nat), tyOK Γ (0, 12) x0 → ∀ r, F 0 σ x0 = some r → CT l G yX13_readAnd cX13_readAnd 2 (some .boolean) d 0 0 [.ref (G.2.1 x0)] Γ σ (PP (some (.int r.1)) Γ r.2)) (hF1 : ∀ (d : Nat), e ≤ d → ∀ (σ : mm) (x0 : Nat), tyOK Γ (0, 12) x0 → ∀ r, F 1 σ x0 = some r → CT l G yX13_readBracket cX13_readBracket 1 (some .boolean) d 0 0 [.ref (G.2.1 x0)] Γ σ (PP (some (.int r.1)) Γ r.2)) (hF2 : ∀ (d : Nat), e ≤ d → ∀ (σ : mm) (x0 : Nat), tyOK Γ (0, 12) x0 → ∀ r, F 2 σ x0 = some r → CT l G yX13_readNot cX13_readNot 1 (some .boolean) d 0 0 [.ref (G.2.1 x0)] Γ σ (PP (some (.int r.1)) Γ r.2)) (hF3 : ∀ (d : Nat), e ≤ d → ∀ (σ : mm) (x0 : Nat), tyOK Γ (0, 12) x0 → ∀ r, F 3 σ x0 = some r → CT l G yX13_readOr cX13_readOr 2 (some .boolean) d 0 0 [.ref (G.2.1 x0)] Γ σ (PP (some (.int r.1)) Γ r.2)) (hF4 : ∀ (d : Nat), e ≤ d → ∀ (σ : mm) (x0 : Nat), tyOK Γ (0, 12) x0 → ∀ r, F 4 σ x0 = some r → CT l G yX13_readSaid cX13_readSaid 4 (some .boolean) d 0 0 [.ref (G.2.1 x0)] Γ σ (PP (some (.int r.1)) Γ r.2)) (x0 : Nat) (t0 : tyOK Γ (0, 12) x0) {K : (mm ⊕ (Int32 × mm)) → Prop} (kx0 : ∀ (σ9 : mm), K (.inl σ9) → WP l G yX13_readAnd cX13_readAnd 2 (some .boolean) d 0 0 Q 0 0 34 [] [] Γ σ9) (kx1 : ∀ (x1 : Int32) (σ9 : mm), K (.inr (x1, σ9)) → WP l G yX13_readAnd cX13_readAnd 2 (some .boolean) d 0 0 Q 0 0 51 [(0, .ref (G.2.1 x0)), (1, .int x1)] [] Γ σ9) : ∀ (N : Nat) (s : (Int32 × mm)) (b : (mm ⊕ (Int32 × mm))), loopN (fX13_readAnd_L14 F Γ.2 x0) N s = some b → K b → WP l G yX13_readAnd cX13_readAnd 2 (some .boolean) d 0 0 Q 0 0 14 [(0, .ref (G.2.1 x0)), (1, .int s.1)] [] Γ s.2 := by
  refine r_loop (f := fX13_readAnd_L14 F Γ.2 x0) (hlv := fun s => [(0, .ref (G.2.1 x0)), (1, .int s.1)]) (hsg := fun s => s.2) ?_
  rintro ⟨x1, σ⟩ r h hb hx
  have hb : ∀ (x1 : Int32) (σ : mm), r = .inl (x1, σ) → WP l G yX13_readAnd cX13_readAnd 2 (some .boolean) d 0 0 Q 0 0 14 [(0, .ref (G.2.1 x0)), (1, .int x1)] [] Γ σ := fun x1 σ e => hb (x1, σ) e
  have hx0 : ∀ (σ9 : mm), r = .inr (.inl σ9) → WP l G yX13_readAnd cX13_readAnd 2 (some .boolean) d 0 0 Q 0 0 34 [] [] Γ σ9 := fun σ9 e => kx0 σ9 (hx _ e)
  have hx1 : ∀ (x1 : Int32) (σ9 : mm), r = .inr (.inr (x1, σ9)) → WP l G yX13_readAnd cX13_readAnd 2 (some .boolean) d 0 0 Q 0 0 51 [(0, .ref (G.2.1 x0)), (1, .int x1)] [] Γ σ9 := fun x1 σ9 e => kx1 x1 σ9 (hx _ e)
  unfold fX13_readAnd_L14 at h
  have h := un2_some h
  show WP l G yX13_readAnd cX13_readAnd 2 (some .boolean) d 0 0 Q 0 0 14 [(0, .ref (G.2.1 x0)), (1, .int x1)] [] Γ σ
  refine r_aload_n 0 dX13_readAnd_14 rfl ?_
  refine r_bipush (v := 18) dX13_readAnd_15 (by decide) ?_
  obtain ⟨v1, ev1, h⟩ := bd0_some h
  refine q_cVI [.int (18 : Int32)] dX13_readAnd_17 cv_X13_191 (ci := 12) rfl rfl t0 rfl rfl (Nat.le_of_ble_eq_true rfl) (by omega) (kX13_isWord (d - 1) (by omega) x0 (18 : Int32) t0 v1 ev1) ?_
  refine r_if_eq 51 dX13_readAnd_20 (by decide) h (fun _ h => ?_) (fun _ h => ?_)
  · obtain rfl := Option.some.inj h
    exact hx1 _ _ rfl
  · refine r_aload_n 0 dX13_readAnd_23 rfl ?_
    obtain ⟨τ2, eτ2, h⟩ := bd0_some h
    refine q_cVV [] dX13_readAnd_24 cv_X13_82 (ci := 12) rfl rfl t0 rfl rfl (Nat.le_of_ble_eq_true rfl) (by omega) (kX13_go (d - 1) (by omega) x0 t0 τ2 eτ2) ?_
    refine r_aload_n 0 dX13_readAnd_27 rfl ?_
    obtain ⟨v3, τ4, ev3, h⟩ := bd2_some h
    refine q_cVI [] dX13_readAnd_28 cv_X13_427 (ci := 12) rfl rfl t0 rfl rfl (Nat.le_of_ble_eq_true rfl) (by omega) (hF4 (d - 1) (by omega) τ2 x0 t0 (v3, τ4) ev3) ?_
    refine r_if_ne 36 dX13_readAnd_31 (by decide) h (fun _ h => ?_) (fun _ h => ?_)
    · refine r_aload_n 0 dX13_readAnd_36 rfl ?_
      refine r_iconst (v := 2) dX13_readAnd_37 (by decide) ?_
      refine r_iload_n 1 dX13_readAnd_38 rfl ?_
      refine r_aload_n 0 dX13_readAnd_39 rfl ?_
      refine r_getI dX13_readAnd_40 fd_X13_420 t0 ?_
      refine r_iconst (v := 0) dX13_readAnd_43 (by decide) ?_
      obtain ⟨v5, τ6, ev5, h⟩ := bd2_some h
      refine q_cVI [.int (2 : Int32), .int x1, .int (τ4.1 x0 42), .int (0 : Int32)] dX13_readAnd_44 cv_X13_423 (ci := 12) rfl rfl t0 rfl rfl (Nat.le_of_ble_eq_true rfl) (by omega) (kX13_saysOne (d - 1) (by omega) x0 (2 : Int32) x1 (τ4.1 x0 42) (0 : Int32) t0 (v5, τ6) ev5) ?_
      refine r_istore_n (lv' := [(1, .int v5), (0, .ref (G.2.1 x0))]) dX13_readAnd_47 (by decide) rfl ?_
      refine r_goto 14 dX13_readAnd_48 (by decide) ?_
      obtain rfl := Option.some.inj h
      refine r_pick [1, 0] rfl ?_
      exact hb _ _ rfl
    · obtain rfl := Option.some.inj h
      refine r_pick [] rfl ?_
      exact hx0 _ rfl
theorem kX13_readAnd {l : Launch} {G : gg} {Γ : ly} {σ : mm} (d : Nat) (hdd : 5 ≤ d) {F : Nat → mm → Nat → Option (Int32 × mm)} {e : Nat} (hde : e + 1 ≤ d) (hF0 : ∀ (d : Nat), e ≤ d → ∀ (σ : mm) (x0 : Nat), tyOK Γ (0, 12) x0 → ∀ r, F 0 σ x0 = some r → CT l G yX13_readAnd cX13_readAnd 2 (some .boolean) d 0 0 [.ref (G.2.1 x0)] Γ σ (PP (some (.int r.1)) Γ r.2)) (hF1 : ∀ (d : Nat), e ≤ d → ∀ (σ : mm) (x0 : Nat), tyOK Γ (0, 12) x0 → ∀ r, F 1 σ x0 = some r → CT l G yX13_readBracket cX13_readBracket 1 (some .boolean) d 0 0 [.ref (G.2.1 x0)] Γ σ (PP (some (.int r.1)) Γ r.2)) (hF2 : ∀ (d : Nat), e ≤ d → ∀ (σ : mm) (x0 : Nat), tyOK Γ (0, 12) x0 → ∀ r, F 2 σ x0 = some r → CT l G yX13_readNot cX13_readNot 1 (some .boolean) d 0 0 [.ref (G.2.1 x0)] Γ σ (PP (some (.int r.1)) Γ r.2)) (hF3 : ∀ (d : Nat), e ≤ d → ∀ (σ : mm) (x0 : Nat), tyOK Γ (0, 12) x0 → ∀ r, F 3 σ x0 = some r → CT l G yX13_readOr cX13_readOr 2 (some .boolean) d 0 0 [.ref (G.2.1 x0)] Γ σ (PP (some (.int r.1)) Γ r.2)) (hF4 : ∀ (d : Nat), e ≤ d → ∀ (σ : mm) (x0 : Nat), tyOK Γ (0, 12) x0 → ∀ r, F 4 σ x0 = some r → CT l G yX13_readSaid cX13_readSaid 4 (some .boolean) d 0 0 [.ref (G.2.1 x0)] Γ σ (PP (some (.int r.1)) Γ r.2)) (x0 : Nat) (t0 : tyOK Γ (0, 12) x0) (r : (Int32 × mm)) (h : fX13_readAnd F Γ.2 σ x0 = some r) : CT l G yX13_readAnd cX13_readAnd 2 (some .boolean) d 0 0 [.ref (G.2.1 x0)] Γ σ (PP (some (.int r.1)) Γ r.2) := by
  refine CT.ofWP (by decide) (Nat.le_of_ble_eq_true rfl) ?_
  have hQ : PP (some (.int r.1)) Γ r.2 (some (.int r.1)) Γ r.2 := PP.self
  generalize PP (some (.int r.1)) Γ r.2 = Q at hQ ⊢
  show WP l G yX13_readAnd cX13_readAnd 2 (some .boolean) d 0 0 Q 0 0 0 [(0, .ref (G.2.1 x0))] [] Γ σ
  unfold fX13_readAnd at h
  refine r_aload_n 0 dX13_readAnd_0 rfl ?_
  obtain ⟨v1, τ2, ev1, h⟩ := bd2_some h
  refine q_cVI [] dX13_readAnd_1 cv_X13_427 (ci := 12) rfl rfl t0 rfl rfl (Nat.le_of_ble_eq_true rfl) (by omega) (hF4 (d - 1) (by omega) σ x0 t0 (v1, τ2) ev1) ?_
  refine r_if_ne 9 dX13_readAnd_4 (by decide) h (fun _ h => ?_) (fun _ h => ?_)
  · refine r_aload_n 0 dX13_readAnd_9 rfl ?_
    refine r_getI dX13_readAnd_10 fd_X13_420 t0 ?_
    refine q_nmI h (fun v3 h => ?_)
    refine r_istore_n (lv' := [(1, .int v3), (0, .ref (G.2.1 x0))]) dX13_readAnd_13 (by decide) rfl ?_
    obtain ⟨b4, eb4, h⟩ := bd0_some h
    refine r_pick [1, 0] rfl ?_
    refine sX13_readAnd_L14 hdd hde hF0 hF1 hF2 hF3 hF4 x0 t0 (K := fun b => b = b4) ?_ ?_ 1000 (v3, τ2) b4 eb4 rfl
    · rintro τ5 rfl
      have h := cs2_0 h
      refine r_iconst (v := 0) dX13_readAnd_34 (by decide) ?_
      obtain rfl := Option.some.inj h
      exact r_zreturn dX13_readAnd_35 rfl (by decide) hQ (Nat.le_refl _) (Nat.le_refl _)
    · rintro v6 τ7 rfl
      have h := cs2_1 h
      have h := un2_some h
      refine r_aload_n 0 dX13_readAnd_51 rfl ?_
      refine r_iload_n 1 dX13_readAnd_52 rfl ?_
      refine q_putI dX13_readAnd_53 fd_X13_420 t0 h (fun τ8 h => ?_)
      refine r_iconst (v := 1) dX13_readAnd_56 (by decide) ?_
      obtain rfl := Option.some.inj h
      exact r_zreturn dX13_readAnd_57 rfl (by decide) hQ (Nat.le_refl _) (Nat.le_refl _)
  · refine r_iconst (v := 0) dX13_readAnd_7 (by decide) ?_
    obtain rfl := Option.some.inj h
    exact r_zreturn dX13_readAnd_8 rfl (by decide) hQ (Nat.le_refl _) (Nat.le_refl _)
theorem sX13_readOr_L14 {l : Launch} {G : gg} {Γ : ly} {d : Nat} {Q : Option Value → ly → mm → Prop} (hdd : 5 ≤ d) {F : Nat → mm → Nat → Option (Int32 × mm)} {e : Nat} (hde : e + 1 ≤ d) (hF0 : ∀ (d : Nat), e ≤ d → ∀ (σ : mm) (x0 : Nat), tyOK Γ (0, 12) x0 → ∀ r, F 0 σ x0 = some r → CT l G yX13_readAnd cX13_readAnd 2 (some .boolean) d 0 0 [.ref (G.2.1 x0)] Γ σ (PP (some (.int r.1)) Γ r.2)) (hF1 : ∀ (d : Nat), e ≤ d → ∀ (σ : mm) (x0 : Nat), tyOK Γ (0, 12) x0 → ∀ r, F 1 σ x0 = some r → CT l G yX13_readBracket cX13_readBracket 1 (some .boolean) d 0 0 [.ref (G.2.1 x0)] Γ σ (PP (some (.int r.1)) Γ r.2)) (hF2 : ∀ (d : Nat), e ≤ d → ∀ (σ : mm) (x0 : Nat), tyOK Γ (0, 12) x0 → ∀ r, F 2 σ x0 = some r → CT l G yX13_readNot cX13_readNot 1 (some .boolean) d 0 0 [.ref (G.2.1 x0)] Γ σ (PP (some (.int r.1)) Γ r.2)) (hF3 : ∀ (d : Nat), e ≤ d → ∀ (σ : mm) (x0 : Nat), tyOK Γ (0, 12) x0 → ∀ r, F 3 σ x0 = some r → CT l G yX13_readOr cX13_readOr 2 (some .boolean) d 0 0 [.ref (G.2.1 x0)] Γ σ (PP (some (.int r.1)) Γ r.2)) (hF4 : ∀ (d : Nat), e ≤ d → ∀ (σ : mm) (x0 : Nat), tyOK Γ (0, 12) x0 → ∀ r, F 4 σ x0 = some r → CT l G yX13_readSaid cX13_readSaid 4 (some .boolean) d 0 0 [.ref (G.2.1 x0)] Γ σ (PP (some (.int r.1)) Γ r.2)) (x0 : Nat) (t0 : tyOK Γ (0, 12) x0) {K : (mm ⊕ (Int32 × mm)) → Prop} (kx0 : ∀ (σ9 : mm), K (.inl σ9) → WP l G yX13_readOr cX13_readOr 2 (some .boolean) d 0 0 Q 0 0 34 [] [] Γ σ9) (kx1 : ∀ (x1 : Int32) (σ9 : mm), K (.inr (x1, σ9)) → WP l G yX13_readOr cX13_readOr 2 (some .boolean) d 0 0 Q 0 0 51 [(0, .ref (G.2.1 x0)), (1, .int x1)] [] Γ σ9) : ∀ (N : Nat) (s : (Int32 × mm)) (b : (mm ⊕ (Int32 × mm))), loopN (fX13_readOr_L14 F Γ.2 x0) N s = some b → K b → WP l G yX13_readOr cX13_readOr 2 (some .boolean) d 0 0 Q 0 0 14 [(0, .ref (G.2.1 x0)), (1, .int s.1)] [] Γ s.2 := by
  refine r_loop (f := fX13_readOr_L14 F Γ.2 x0) (hlv := fun s => [(0, .ref (G.2.1 x0)), (1, .int s.1)]) (hsg := fun s => s.2) ?_
  rintro ⟨x1, σ⟩ r h hb hx
  have hb : ∀ (x1 : Int32) (σ : mm), r = .inl (x1, σ) → WP l G yX13_readOr cX13_readOr 2 (some .boolean) d 0 0 Q 0 0 14 [(0, .ref (G.2.1 x0)), (1, .int x1)] [] Γ σ := fun x1 σ e => hb (x1, σ) e
  have hx0 : ∀ (σ9 : mm), r = .inr (.inl σ9) → WP l G yX13_readOr cX13_readOr 2 (some .boolean) d 0 0 Q 0 0 34 [] [] Γ σ9 := fun σ9 e => kx0 σ9 (hx _ e)
  have hx1 : ∀ (x1 : Int32) (σ9 : mm), r = .inr (.inr (x1, σ9)) → WP l G yX13_readOr cX13_readOr 2 (some .boolean) d 0 0 Q 0 0 51 [(0, .ref (G.2.1 x0)), (1, .int x1)] [] Γ σ9 := fun x1 σ9 e => kx1 x1 σ9 (hx _ e)
  unfold fX13_readOr_L14 at h
  have h := un2_some h
  show WP l G yX13_readOr cX13_readOr 2 (some .boolean) d 0 0 Q 0 0 14 [(0, .ref (G.2.1 x0)), (1, .int x1)] [] Γ σ
  refine r_aload_n 0 dX13_readOr_14 rfl ?_
  refine r_bipush (v := 17) dX13_readOr_15 (by decide) ?_
  obtain ⟨v1, ev1, h⟩ := bd0_some h
  refine q_cVI [.int (17 : Int32)] dX13_readOr_17 cv_X13_191 (ci := 12) rfl rfl t0 rfl rfl (Nat.le_of_ble_eq_true rfl) (by omega) (kX13_isWord (d - 1) (by omega) x0 (17 : Int32) t0 v1 ev1) ?_
  refine r_if_eq 51 dX13_readOr_20 (by decide) h (fun _ h => ?_) (fun _ h => ?_)
  · obtain rfl := Option.some.inj h
    exact hx1 _ _ rfl
  · refine r_aload_n 0 dX13_readOr_23 rfl ?_
    obtain ⟨τ2, eτ2, h⟩ := bd0_some h
    refine q_cVV [] dX13_readOr_24 cv_X13_82 (ci := 12) rfl rfl t0 rfl rfl (Nat.le_of_ble_eq_true rfl) (by omega) (kX13_go (d - 1) (by omega) x0 t0 τ2 eτ2) ?_
    refine r_aload_n 0 dX13_readOr_27 rfl ?_
    obtain ⟨v3, τ4, ev3, h⟩ := bd2_some h
    refine q_cVI [] dX13_readOr_28 cv_X13_417 (ci := 12) rfl rfl t0 rfl rfl (Nat.le_of_ble_eq_true rfl) (by omega) (hF0 (d - 1) (by omega) τ2 x0 t0 (v3, τ4) ev3) ?_
    refine r_if_ne 36 dX13_readOr_31 (by decide) h (fun _ h => ?_) (fun _ h => ?_)
    · refine r_aload_n 0 dX13_readOr_36 rfl ?_
      refine r_iconst (v := 3) dX13_readOr_37 (by decide) ?_
      refine r_iload_n 1 dX13_readOr_38 rfl ?_
      refine r_aload_n 0 dX13_readOr_39 rfl ?_
      refine r_getI dX13_readOr_40 fd_X13_420 t0 ?_
      refine r_iconst (v := 0) dX13_readOr_43 (by decide) ?_
      obtain ⟨v5, τ6, ev5, h⟩ := bd2_some h
      refine q_cVI [.int (3 : Int32), .int x1, .int (τ4.1 x0 42), .int (0 : Int32)] dX13_readOr_44 cv_X13_423 (ci := 12) rfl rfl t0 rfl rfl (Nat.le_of_ble_eq_true rfl) (by omega) (kX13_saysOne (d - 1) (by omega) x0 (3 : Int32) x1 (τ4.1 x0 42) (0 : Int32) t0 (v5, τ6) ev5) ?_
      refine r_istore_n (lv' := [(1, .int v5), (0, .ref (G.2.1 x0))]) dX13_readOr_47 (by decide) rfl ?_
      refine r_goto 14 dX13_readOr_48 (by decide) ?_
      obtain rfl := Option.some.inj h
      refine r_pick [1, 0] rfl ?_
      exact hb _ _ rfl
    · obtain rfl := Option.some.inj h
      refine r_pick [] rfl ?_
      exact hx0 _ rfl
theorem kX13_readOr {l : Launch} {G : gg} {Γ : ly} {σ : mm} (d : Nat) (hdd : 5 ≤ d) {F : Nat → mm → Nat → Option (Int32 × mm)} {e : Nat} (hde : e + 1 ≤ d) (hF0 : ∀ (d : Nat), e ≤ d → ∀ (σ : mm) (x0 : Nat), tyOK Γ (0, 12) x0 → ∀ r, F 0 σ x0 = some r → CT l G yX13_readAnd cX13_readAnd 2 (some .boolean) d 0 0 [.ref (G.2.1 x0)] Γ σ (PP (some (.int r.1)) Γ r.2)) (hF1 : ∀ (d : Nat), e ≤ d → ∀ (σ : mm) (x0 : Nat), tyOK Γ (0, 12) x0 → ∀ r, F 1 σ x0 = some r → CT l G yX13_readBracket cX13_readBracket 1 (some .boolean) d 0 0 [.ref (G.2.1 x0)] Γ σ (PP (some (.int r.1)) Γ r.2)) (hF2 : ∀ (d : Nat), e ≤ d → ∀ (σ : mm) (x0 : Nat), tyOK Γ (0, 12) x0 → ∀ r, F 2 σ x0 = some r → CT l G yX13_readNot cX13_readNot 1 (some .boolean) d 0 0 [.ref (G.2.1 x0)] Γ σ (PP (some (.int r.1)) Γ r.2)) (hF3 : ∀ (d : Nat), e ≤ d → ∀ (σ : mm) (x0 : Nat), tyOK Γ (0, 12) x0 → ∀ r, F 3 σ x0 = some r → CT l G yX13_readOr cX13_readOr 2 (some .boolean) d 0 0 [.ref (G.2.1 x0)] Γ σ (PP (some (.int r.1)) Γ r.2)) (hF4 : ∀ (d : Nat), e ≤ d → ∀ (σ : mm) (x0 : Nat), tyOK Γ (0, 12) x0 → ∀ r, F 4 σ x0 = some r → CT l G yX13_readSaid cX13_readSaid 4 (some .boolean) d 0 0 [.ref (G.2.1 x0)] Γ σ (PP (some (.int r.1)) Γ r.2)) (x0 : Nat) (t0 : tyOK Γ (0, 12) x0) (r : (Int32 × mm)) (h : fX13_readOr F Γ.2 σ x0 = some r) : CT l G yX13_readOr cX13_readOr 2 (some .boolean) d 0 0 [.ref (G.2.1 x0)] Γ σ (PP (some (.int r.1)) Γ r.2) := by
  refine CT.ofWP (by decide) (Nat.le_of_ble_eq_true rfl) ?_
  have hQ : PP (some (.int r.1)) Γ r.2 (some (.int r.1)) Γ r.2 := PP.self
  generalize PP (some (.int r.1)) Γ r.2 = Q at hQ ⊢
  show WP l G yX13_readOr cX13_readOr 2 (some .boolean) d 0 0 Q 0 0 0 [(0, .ref (G.2.1 x0))] [] Γ σ
  unfold fX13_readOr at h
  refine r_aload_n 0 dX13_readOr_0 rfl ?_
  obtain ⟨v1, τ2, ev1, h⟩ := bd2_some h
  refine q_cVI [] dX13_readOr_1 cv_X13_417 (ci := 12) rfl rfl t0 rfl rfl (Nat.le_of_ble_eq_true rfl) (by omega) (hF0 (d - 1) (by omega) σ x0 t0 (v1, τ2) ev1) ?_
  refine r_if_ne 9 dX13_readOr_4 (by decide) h (fun _ h => ?_) (fun _ h => ?_)
  · refine r_aload_n 0 dX13_readOr_9 rfl ?_
    refine r_getI dX13_readOr_10 fd_X13_420 t0 ?_
    refine q_nmI h (fun v3 h => ?_)
    refine r_istore_n (lv' := [(1, .int v3), (0, .ref (G.2.1 x0))]) dX13_readOr_13 (by decide) rfl ?_
    obtain ⟨b4, eb4, h⟩ := bd0_some h
    refine r_pick [1, 0] rfl ?_
    refine sX13_readOr_L14 hdd hde hF0 hF1 hF2 hF3 hF4 x0 t0 (K := fun b => b = b4) ?_ ?_ 1000 (v3, τ2) b4 eb4 rfl
    · rintro τ5 rfl
      have h := cs2_0 h
      refine r_iconst (v := 0) dX13_readOr_34 (by decide) ?_
      obtain rfl := Option.some.inj h
      exact r_zreturn dX13_readOr_35 rfl (by decide) hQ (Nat.le_refl _) (Nat.le_refl _)
    · rintro v6 τ7 rfl
      have h := cs2_1 h
      have h := un2_some h
      refine r_aload_n 0 dX13_readOr_51 rfl ?_
      refine r_iload_n 1 dX13_readOr_52 rfl ?_
      refine q_putI dX13_readOr_53 fd_X13_420 t0 h (fun τ8 h => ?_)
      refine r_iconst (v := 1) dX13_readOr_56 (by decide) ?_
      obtain rfl := Option.some.inj h
      exact r_zreturn dX13_readOr_57 rfl (by decide) hQ (Nat.le_refl _) (Nat.le_refl _)
  · refine r_iconst (v := 0) dX13_readOr_7 (by decide) ?_
    obtain rfl := Option.some.inj h
    exact r_zreturn dX13_readOr_8 rfl (by decide) hQ (Nat.le_refl _) (Nat.le_refl _)
theorem kallX13_readAnd {l : Launch} {G : gg} {Γ : ly} : ∀ n : Nat, (∀ (d : Nat), 5 + n ≤ d → ∀ (σ : mm) (x0 : Nat), tyOK Γ (0, 12) x0 → ∀ r, gX13_readAnd Γ.2 n 0 σ x0 = some r → CT l G yX13_readAnd cX13_readAnd 2 (some .boolean) d 0 0 [.ref (G.2.1 x0)] Γ σ (PP (some (.int r.1)) Γ r.2)) ∧ (∀ (d : Nat), 5 + n ≤ d → ∀ (σ : mm) (x0 : Nat), tyOK Γ (0, 12) x0 → ∀ r, gX13_readAnd Γ.2 n 1 σ x0 = some r → CT l G yX13_readBracket cX13_readBracket 1 (some .boolean) d 0 0 [.ref (G.2.1 x0)] Γ σ (PP (some (.int r.1)) Γ r.2)) ∧ (∀ (d : Nat), 5 + n ≤ d → ∀ (σ : mm) (x0 : Nat), tyOK Γ (0, 12) x0 → ∀ r, gX13_readAnd Γ.2 n 2 σ x0 = some r → CT l G yX13_readNot cX13_readNot 1 (some .boolean) d 0 0 [.ref (G.2.1 x0)] Γ σ (PP (some (.int r.1)) Γ r.2)) ∧ (∀ (d : Nat), 5 + n ≤ d → ∀ (σ : mm) (x0 : Nat), tyOK Γ (0, 12) x0 → ∀ r, gX13_readAnd Γ.2 n 3 σ x0 = some r → CT l G yX13_readOr cX13_readOr 2 (some .boolean) d 0 0 [.ref (G.2.1 x0)] Γ σ (PP (some (.int r.1)) Γ r.2)) ∧ (∀ (d : Nat), 5 + n ≤ d → ∀ (σ : mm) (x0 : Nat), tyOK Γ (0, 12) x0 → ∀ r, gX13_readAnd Γ.2 n 4 σ x0 = some r → CT l G yX13_readSaid cX13_readSaid 4 (some .boolean) d 0 0 [.ref (G.2.1 x0)] Γ σ (PP (some (.int r.1)) Γ r.2)) := by
  intro n
  induction n with
  | zero => exact ⟨fun d _ σ _ _ r h => (nomatch h), fun d _ σ _ _ r h => (nomatch h), fun d _ σ _ _ r h => (nomatch h), fun d _ σ _ _ r h => (nomatch h), fun d _ σ _ _ r h => (nomatch h)⟩
  | succ n ih =>
    obtain ⟨hF0, hF1, hF2, hF3, hF4⟩ := ih
    refine ⟨?_, ?_, ?_, ?_, ?_⟩
    · intro d hd σ x0 t0 r h
      exact kX13_readAnd (F := gX13_readAnd Γ.2 n) (e := 5 + n) d (by omega) (by omega) hF0 hF1 hF2 hF3 hF4 x0 t0 r h
    · intro d hd σ x0 t0 r h
      exact kX13_readBracket (F := gX13_readAnd Γ.2 n) (e := 5 + n) d (by omega) (by omega) hF0 hF1 hF2 hF3 hF4 x0 t0 r h
    · intro d hd σ x0 t0 r h
      exact kX13_readNot (F := gX13_readAnd Γ.2 n) (e := 5 + n) d (by omega) (by omega) hF0 hF1 hF2 hF3 hF4 x0 t0 r h
    · intro d hd σ x0 t0 r h
      exact kX13_readOr (F := gX13_readAnd Γ.2 n) (e := 5 + n) d (by omega) (by omega) hF0 hF1 hF2 hF3 hF4 x0 t0 r h
    · intro d hd σ x0 t0 r h
      exact kX13_readSaid (F := gX13_readAnd Γ.2 n) (e := 5 + n) d (by omega) (by omega) hF0 hF1 hF2 hF3 hF4 x0 t0 r h
theorem kgX13_readAnd {l : Launch} {G : gg} {Γ : ly} (n : Nat) : ∀ (d : Nat), 5 + n ≤ d → ∀ (σ : mm) (x0 : Nat), tyOK Γ (0, 12) x0 → ∀ r, gX13_readAnd Γ.2 n 0 σ x0 = some r → CT l G yX13_readAnd cX13_readAnd 2 (some .boolean) d 0 0 [.ref (G.2.1 x0)] Γ σ (PP (some (.int r.1)) Γ r.2) := (kallX13_readAnd n).1
theorem kgX13_readBracket {l : Launch} {G : gg} {Γ : ly} (n : Nat) : ∀ (d : Nat), 5 + n ≤ d → ∀ (σ : mm) (x0 : Nat), tyOK Γ (0, 12) x0 → ∀ r, gX13_readAnd Γ.2 n 1 σ x0 = some r → CT l G yX13_readBracket cX13_readBracket 1 (some .boolean) d 0 0 [.ref (G.2.1 x0)] Γ σ (PP (some (.int r.1)) Γ r.2) := (kallX13_readAnd n).2.1
theorem kgX13_readNot {l : Launch} {G : gg} {Γ : ly} (n : Nat) : ∀ (d : Nat), 5 + n ≤ d → ∀ (σ : mm) (x0 : Nat), tyOK Γ (0, 12) x0 → ∀ r, gX13_readAnd Γ.2 n 2 σ x0 = some r → CT l G yX13_readNot cX13_readNot 1 (some .boolean) d 0 0 [.ref (G.2.1 x0)] Γ σ (PP (some (.int r.1)) Γ r.2) := (kallX13_readAnd n).2.2.1
theorem kgX13_readOr {l : Launch} {G : gg} {Γ : ly} (n : Nat) : ∀ (d : Nat), 5 + n ≤ d → ∀ (σ : mm) (x0 : Nat), tyOK Γ (0, 12) x0 → ∀ r, gX13_readAnd Γ.2 n 3 σ x0 = some r → CT l G yX13_readOr cX13_readOr 2 (some .boolean) d 0 0 [.ref (G.2.1 x0)] Γ σ (PP (some (.int r.1)) Γ r.2) := (kallX13_readAnd n).2.2.2.1
theorem kgX13_readSaid {l : Launch} {G : gg} {Γ : ly} (n : Nat) : ∀ (d : Nat), 5 + n ≤ d → ∀ (σ : mm) (x0 : Nat), tyOK Γ (0, 12) x0 → ∀ r, gX13_readAnd Γ.2 n 4 σ x0 = some r → CT l G yX13_readSaid cX13_readSaid 4 (some .boolean) d 0 0 [.ref (G.2.1 x0)] Γ σ (PP (some (.int r.1)) Γ r.2) := (kallX13_readAnd n).2.2.2.2
theorem sX13_sentence_L79 {l : Launch} {G : gg} {Γ : ly} {d : Nat} {Q : Option Value → ly → mm → Prop} (hdd : 106 ≤ d) (x0 : Nat) (t0 : tyOK Γ (0, 12) x0) {K : mm → Prop} (kx0 : ∀ (σ9 : mm), K σ9 → WP l G yX13_sentence cX13_sentence 2 (some .int) d 0 0 Q 0 0 108 [(0, .ref (G.2.1 x0))] [] Γ σ9) : ∀ (N : Nat) (s : (Int32 × mm)) (b : mm), loopN (fX13_sentence_L79 Γ.2 x0) N s = some b → K b → WP l G yX13_sentence cX13_sentence 2 (some .int) d 0 0 Q 0 0 79 [(0, .ref (G.2.1 x0)), (1, .int s.1)] [] Γ s.2 := by
  refine r_loop (f := fX13_sentence_L79 Γ.2 x0) (hlv := fun s => [(0, .ref (G.2.1 x0)), (1, .int s.1)]) (hsg := fun s => s.2) ?_
  rintro ⟨x1, σ⟩ r h hb hx
  have hb : ∀ (x1 : Int32) (σ : mm), r = .inl (x1, σ) → WP l G yX13_sentence cX13_sentence 2 (some .int) d 0 0 Q 0 0 79 [(0, .ref (G.2.1 x0)), (1, .int x1)] [] Γ σ := fun x1 σ e => hb (x1, σ) e
  have hx0 : ∀ (σ9 : mm), r = .inr σ9 → WP l G yX13_sentence cX13_sentence 2 (some .int) d 0 0 Q 0 0 108 [(0, .ref (G.2.1 x0))] [] Γ σ9 := fun σ9 e => kx0 σ9 (hx _ e)
  unfold fX13_sentence_L79 at h
  have h := un2_some h
  show WP l G yX13_sentence cX13_sentence 2 (some .int) d 0 0 Q 0 0 79 [(0, .ref (G.2.1 x0)), (1, .int x1)] [] Γ σ
  refine r_iload_n 1 dX13_sentence_79 rfl ?_
  refine r_sipush (v := 240) dX13_sentence_80 (by decide) ?_
  refine r_icmp_ge 108 dX13_sentence_83 (by decide) h (fun _ h => ?_) (fun _ h => ?_)
  · obtain rfl := Option.some.inj h
    refine r_pick [0] rfl ?_
    exact hx0 _ rfl
  · refine r_aload_n 0 dX13_sentence_86 rfl ?_
    refine q_getR (e9 := (1, 0)) dX13_sentence_87 fd_X13_98 t0 rfl h (fun r1 tr1 h => ?_)
    refine r_sipush (v := 143) dX13_sentence_90 (by decide) ?_
    refine r_iload_n 1 dX13_sentence_93 rfl ?_
    refine r_iadd dX13_sentence_94 ?_
    refine r_aload_n 0 dX13_sentence_95 rfl ?_
    refine q_getR (e9 := (1, 0)) dX13_sentence_96 fd_X13_145 t0 rfl h (fun r2 tr2 h => ?_)
    refine r_iload_n 1 dX13_sentence_99 rfl ?_
    refine q_iald dX13_sentence_100 tr2 h (fun v3 h => ?_)
    refine q_iast dX13_sentence_101 tr1 h (fun τ4 h => ?_)
    refine q_iinc (v := 1) 1 (fun v5 => [(1, .int v5), (0, .ref (G.2.1 x0))]) dX13_sentence_102 rfl (by decide) (by decide) (fun _ => rfl) h (fun v5 h => ?_)
    refine r_goto 79 dX13_sentence_105 (by decide) ?_
    obtain rfl := Option.some.inj h
    refine r_pick [1, 0] rfl ?_
    exact hb _ _ rfl
theorem kX13_sentence {l : Launch} {G : gg} {Γ : ly} {σ : mm} (d : Nat) (hdd : 106 ≤ d) (x0 : Nat) (t0 : tyOK Γ (0, 12) x0) (r : (Int32 × mm)) (h : fX13_sentence Γ.2 σ x0 = some r) : CT l G yX13_sentence cX13_sentence 2 (some .int) d 0 0 [.ref (G.2.1 x0)] Γ σ (PP (some (.int r.1)) Γ r.2) := by
  refine CT.ofWP (by decide) (Nat.le_of_ble_eq_true rfl) ?_
  have hQ : PP (some (.int r.1)) Γ r.2 (some (.int r.1)) Γ r.2 := PP.self
  generalize PP (some (.int r.1)) Γ r.2 = Q at hQ ⊢
  show WP l G yX13_sentence cX13_sentence 2 (some .int) d 0 0 Q 0 0 0 [(0, .ref (G.2.1 x0))] [] Γ σ
  unfold fX13_sentence at h
  refine r_aload_n 0 dX13_sentence_0 rfl ?_
  refine r_sipush (v := 200) dX13_sentence_1 (by decide) ?_
  obtain ⟨τ1, eτ1, h⟩ := bd0_some h
  refine q_cVV [.int (200 : Int32)] dX13_sentence_4 cv_X13_212 (ci := 12) rfl rfl t0 rfl rfl (Nat.le_of_ble_eq_true rfl) (by omega) (kX13_begin (d - 1) (by omega) x0 (200 : Int32) t0 τ1 eτ1) ?_
  refine r_aload_n 0 dX13_sentence_7 rfl ?_
  refine r_iconst (v := 0) dX13_sentence_8 (by decide) ?_
  refine q_putI dX13_sentence_9 fd_X13_414 t0 h (fun τ2 h => ?_)
  refine r_aload_n 0 dX13_sentence_12 rfl ?_
  refine r_iconst (v := 0) dX13_sentence_13 (by decide) ?_
  refine q_putI dX13_sentence_14 fd_X13_430 t0 h (fun τ3 h => ?_)
  refine r_aload_n 0 dX13_sentence_17 rfl ?_
  refine r_iconst (v := 0) dX13_sentence_18 (by decide) ?_
  refine q_putI dX13_sentence_19 fd_X13_433 t0 h (fun τ4 h => ?_)
  refine r_aload_n 0 dX13_sentence_22 rfl ?_
  obtain ⟨v5, τ6, ev5, h⟩ := bd2_some h
  refine q_cVI [] dX13_sentence_23 cv_X13_448 (ci := 12) rfl rfl t0 rfl rfl (Nat.le_of_ble_eq_true rfl) (by omega) (kgX13_readOr 100 (d - 1) (by omega) τ4 x0 t0 (v5, τ6) ev5) ?_
  refine r_if_ne 36 dX13_sentence_26 (by decide) h (fun _ h => ?_) (fun _ h => ?_)
  · refine r_aload_n 0 dX13_sentence_36 rfl ?_
    refine r_getI dX13_sentence_37 fd_X13_30 t0 ?_
    refine r_if_eq 56 dX13_sentence_40 (by decide) h (fun _ h => ?_) (fun _ h => ?_)
    · refine r_aload_n 0 dX13_sentence_56 rfl ?_
      refine q_getR (e9 := (1, 0)) dX13_sentence_57 fd_X13_98 t0 rfl h (fun r7 tr7 h => ?_)
      refine r_sipush (v := 141) dX13_sentence_60 (by decide) ?_
      refine r_iconst (v := 1) dX13_sentence_63 (by decide) ?_
      refine q_iast dX13_sentence_64 tr7 h (fun τ8 h => ?_)
      refine r_aload_n 0 dX13_sentence_65 rfl ?_
      refine q_getR (e9 := (1, 0)) dX13_sentence_66 fd_X13_98 t0 rfl h (fun r9 tr9 h => ?_)
      refine r_sipush (v := 142) dX13_sentence_69 (by decide) ?_
      refine r_aload_n 0 dX13_sentence_72 rfl ?_
      refine r_getI dX13_sentence_73 fd_X13_420 t0 ?_
      refine q_iast dX13_sentence_76 tr9 h (fun τ10 h => ?_)
      refine r_iconst (v := 0) dX13_sentence_77 (by decide) ?_
      refine r_istore_n (lv' := [(1, .int (0 : Int32)), (0, .ref (G.2.1 x0))]) dX13_sentence_78 (by decide) rfl ?_
      obtain ⟨b11, eb11, h⟩ := bd0_some h
      refine r_pick [1, 0] rfl ?_
      refine sX13_sentence_L79 hdd x0 t0 (K := fun b => b = b11) ?_ 1000 ((0 : Int32), τ10) b11 eb11 rfl
      rintro τ12 rfl
      refine r_aload_n 0 dX13_sentence_108 rfl ?_
      refine r_getI dX13_sentence_109 fd_X13_430 t0 ?_
      obtain rfl := Option.some.inj h
      exact r_ireturn dX13_sentence_112 rfl hQ (Nat.le_refl _) (Nat.le_refl _)
    · refine r_aload_n 0 dX13_sentence_43 rfl ?_
      refine r_iconst (v := 1) dX13_sentence_44 (by decide) ?_
      obtain ⟨v13, τ14, ev13, h⟩ := bd2_some h
      refine q_cVI [.int (1 : Int32)] dX13_sentence_45 cv_X13_72 (ci := 12) rfl rfl t0 rfl rfl (Nat.le_of_ble_eq_true rfl) (by omega) (kX13_bad (d - 1) (by omega) x0 (1 : Int32) t0 (v13, τ14) ev13) ?_
      refine r_pop dX13_sentence_48 rfl ?_
      refine r_iconst (v := -1) dX13_sentence_49 (by decide) ?_
      refine r_aload_n 0 dX13_sentence_50 rfl ?_
      refine r_getI dX13_sentence_51 fd_X13_69 t0 ?_
      refine r_isub dX13_sentence_54 ?_
      obtain rfl := Option.some.inj h
      exact r_ireturn dX13_sentence_55 rfl hQ (Nat.le_refl _) (Nat.le_refl _)
  · refine r_iconst (v := -1) dX13_sentence_29 (by decide) ?_
    refine r_aload_n 0 dX13_sentence_30 rfl ?_
    refine r_getI dX13_sentence_31 fd_X13_69 t0 ?_
    refine r_isub dX13_sentence_34 ?_
    obtain rfl := Option.some.inj h
    exact r_ireturn dX13_sentence_35 rfl hQ (Nat.le_refl _) (Nat.le_refl _)
