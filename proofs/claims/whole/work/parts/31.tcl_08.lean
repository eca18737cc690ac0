/-! the walks, 8 -/
theorem sX7_readAll_L15 {l : Launch} {G : gg} {Γ : ly} {d : Nat} {Q : Option Value → ly → mm → Prop} (hdd : 3 ≤ d) {F : Nat → mm → Nat → Nat → Nat → Int32 → Option (Int32 × mm)} {e : Nat} (hde : e + 1 ≤ d) (hF0 : ∀ (d : Nat), e ≤ d → ∀ (σ : mm) (x0 : Nat) (x1 : Nat) (x2 : Nat) (x3 : Int32), tyOK Γ (0, 7) x0 → tyOK Γ (0, 8) x1 → tyOK Γ (0, 4) x2 → ∀ r, F 0 σ x0 x1 x2 x3 = some r → CT l G yX7_readAll cX7_readAll 5 (some .boolean) d 0 0 [.ref (G.2.1 x0), .ref (G.2.1 x1), .ref (G.2.1 x2), .int x3] Γ σ (PP (some (.int r.1)) Γ r.2)) (hF1 : ∀ (d : Nat), e ≤ d → ∀ (σ : mm) (x0 : Nat) (x1 : Nat) (x2 : Nat) (x3 : Int32), tyOK Γ (0, 7) x0 → tyOK Γ (0, 8) x1 → tyOK Γ (0, 4) x2 → ∀ r, F 1 σ x0 x1 x2 x3 = some r → CT l G yX7_readCond cX7_readCond 5 (some .boolean) d 0 0 [.ref (G.2.1 x0), .ref (G.2.1 x1), .ref (G.2.1 x2), .int x3] Γ σ (PP (some (.int r.1)) Γ r.2)) (hF2 : ∀ (d : Nat), e ≤ d → ∀ (σ : mm) (x0 : Nat) (x1 : Nat) (x2 : Nat) (x3 : Int32), tyOK Γ (0, 7) x0 → tyOK Γ (0, 8) x1 → tyOK Γ (0, 4) x2 → ∀ r, F 2 σ x0 x1 x2 x3 = some r → CT l G yX7_readOne cX7_readOne 5 (some .boolean) d 0 0 [.ref (G.2.1 x0), .ref (G.2.1 x1), .ref (G.2.1 x2), .int x3] Γ σ (PP (some (.int r.1)) Γ r.2)) (x0 : Nat) (x1 : Nat) (x2 : Nat) (x3 : Int32) (t0 : tyOK Γ (0, 7) x0) (t1 : tyOK Γ (0, 8) x1) (t2 : tyOK Γ (0, 4) x2) {K : (mm ⊕ mm) → Prop} (kx0 : ∀ (σ9 : mm), K (.inl σ9) → WP l G yX7_readAll cX7_readAll 5 (some .boolean) d 0 0 Q 0 0 46 [] [] Γ σ9) (kx1 : ∀ (σ9 : mm), K (.inr σ9) → WP l G yX7_readAll cX7_readAll 5 (some .boolean) d 0 0 Q 0 0 64 [] [] Γ σ9) : ∀ (N : Nat) (s : (Int32 × mm)) (b : (mm ⊕ mm)), loopN (fX7_readAll_L15 F Γ.2 x0 x1 x2 x3) N s = some b → K b → WP l G yX7_readAll cX7_readAll 5 (some .boolean) d 0 0 Q 0 0 15 [(0, .ref (G.2.1 x0)), (1, .ref (G.2.1 x1)), (2, .ref (G.2.1 x2)), (3, .int x3), (4, .int s.1)] [] Γ s.2 := by
  refine r_loop (f := fX7_readAll_L15 F Γ.2 x0 x1 x2 x3) (hlv := fun s => [(0, .ref (G.2.1 x0)), (1, .ref (G.2.1 x1)), (2, .ref (G.2.1 x2)), (3, .int x3), (4, .int s.1)]) (hsg := fun s => s.2) ?_
  rintro ⟨x4, σ⟩ r h hb hx
  have hb : ∀ (x4 : Int32) (σ : mm), r = .inl (x4, σ) → WP l G yX7_readAll cX7_readAll 5 (some .boolean) d 0 0 Q 0 0 15 [(0, .ref (G.2.1 x0)), (1, .ref (G.2.1 x1)), (2, .ref (G.2.1 x2)), (3, .int x3), (4, .int x4)] [] Γ σ := fun x4 σ e => hb (x4, σ) e
  have hx0 : ∀ (σ9 : mm), r = .inr (.inl σ9) → WP l G yX7_readAll cX7_readAll 5 (some .boolean) d 0 0 Q 0 0 46 [] [] Γ σ9 := fun σ9 e => kx0 σ9 (hx _ e)
  have hx1 : ∀ (σ9 : mm), r = .inr (.inr σ9) → WP l G yX7_readAll cX7_readAll 5 (some .boolean) d 0 0 Q 0 0 64 [] [] Γ σ9 := fun σ9 e => kx1 σ9 (hx _ e)
  unfold fX7_readAll_L15 at h
  have h := un2_some h
  show WP l G yX7_readAll cX7_readAll 5 (some .boolean) d 0 0 Q 0 0 15 [(0, .ref (G.2.1 x0)), (1, .ref (G.2.1 x1)), (2, .ref (G.2.1 x2)), (3, .int x3), (4, .int x4)] [] Γ σ
  refine r_iload 4 dX7_readAll_15 rfl ?_
  refine r_bipush (v := 20) dX7_readAll_17 (by decide) ?_
  refine r_icmp_ge 64 dX7_readAll_19 (by decide) h (fun _ h => ?_) (fun _ h => ?_)
  · obtain rfl := Option.some.inj h
    refine r_pick [] rfl ?_
    exact hx1 _ rfl
  · refine r_aload_n 1 dX7_readAll_22 rfl ?_
    refine q_getR (e9 := (100, 0)) dX7_readAll_23 fd_X7_61 t1 rfl h (fun r1 tr1 h => ?_)
    refine r_word 20 dX7_readAll_26 fw_X7_74 (by decide) ?_
    refine r_acmp_ne 64 dX7_readAll_29 (by decide) tr1 (tyW (Γ := Γ) (i := 20) (by decide)) h (fun _ h => ?_) (fun _ h => ?_)
    · obtain rfl := Option.some.inj h
      refine r_pick [] rfl ?_
      exact hx1 _ rfl
    · refine r_aload_n 1 dX7_readAll_32 rfl ?_
      obtain ⟨τ2, eτ2, h⟩ := bd0_some h
      refine q_cVV [] dX7_readAll_33 cv_X7_44 (ci := 8) rfl rfl t1 rfl rfl (Nat.le_of_ble_eq_true rfl) (by omega) (kX8_next (d - 1) (by omega) x1 t1 τ2 eτ2) ?_
      refine r_aload_n 0 dX7_readAll_36 rfl ?_
      refine r_aload_n 1 dX7_readAll_37 rfl ?_
      refine r_aload_n 2 dX7_readAll_38 rfl ?_
      refine r_iload_n 3 dX7_readAll_39 rfl ?_
      obtain ⟨v3, τ4, ev3, h⟩ := bd2_some h
      refine q_cVI [.ref (G.2.1 x1), .ref (G.2.1 x2), .int x3] dX7_readAll_40 cv_X7_71 (ci := 7) rfl rfl t0 rfl rfl (Nat.le_of_ble_eq_true rfl) (by omega) (hF2 (d - 1) (by omega) τ2 x0 x1 x2 x3 t0 t1 t2 (v3, τ4) ev3) ?_
      refine r_if_ne 48 dX7_readAll_43 (by decide) h (fun _ h => ?_) (fun _ h => ?_)
      · refine r_aload_n 0 dX7_readAll_48 rfl ?_
        refine r_word 20 dX7_readAll_49 fw_X7_74 (by decide) ?_
        refine r_iconst (v := 0) dX7_readAll_52 (by decide) ?_
        refine r_iconst (v := 0) dX7_readAll_53 (by decide) ?_
        obtain ⟨v5, τ6, ev5, h⟩ := bd2_some h
        refine q_cVI [.ref (G.2.1 20), .int (0 : Int32), .int (0 : Int32)] dX7_readAll_54 cv_X7_67 (ci := 7) rfl rfl t0 rfl rfl (Nat.le_of_ble_eq_true rfl) (by omega) (kX7_addStep (d - 1) (by omega) x0 20 (0 : Int32) (0 : Int32) t0 (tyW (Γ := Γ) (i := 20) (by decide)) (v5, τ6) ev5) ?_
        refine r_pop dX7_readAll_57 rfl ?_
        refine q_iinc (v := 1) 4 (fun v7 => [(4, .int v7), (0, .ref (G.2.1 x0)), (1, .ref (G.2.1 x1)), (2, .ref (G.2.1 x2)), (3, .int x3)]) dX7_readAll_58 rfl (by decide) (by decide) (fun _ => rfl) h (fun v7 h => ?_)
        refine r_goto 15 dX7_readAll_61 (by decide) ?_
        obtain rfl := Option.some.inj h
        refine r_pick [1, 2, 3, 4, 0] rfl ?_
        exact hb _ _ rfl
      · obtain rfl := Option.some.inj h
        refine r_pick [] rfl ?_
        exact hx0 _ rfl
theorem tX7_readAll_b64 {l : Launch} {G : gg} {Γ : ly} {d : Nat} {Q : Option Value → ly → mm → Prop} (hdd : 3 ≤ d) {F : Nat → mm → Nat → Nat → Nat → Int32 → Option (Int32 × mm)} {e : Nat} (hde : e + 1 ≤ d) (hF0 : ∀ (d : Nat), e ≤ d → ∀ (σ : mm) (x0 : Nat) (x1 : Nat) (x2 : Nat) (x3 : Int32), tyOK Γ (0, 7) x0 → tyOK Γ (0, 8) x1 → tyOK Γ (0, 4) x2 → ∀ r, F 0 σ x0 x1 x2 x3 = some r → CT l G yX7_readAll cX7_readAll 5 (some .boolean) d 0 0 [.ref (G.2.1 x0), .ref (G.2.1 x1), .ref (G.2.1 x2), .int x3] Γ σ (PP (some (.int r.1)) Γ r.2)) (hF1 : ∀ (d : Nat), e ≤ d → ∀ (σ : mm) (x0 : Nat) (x1 : Nat) (x2 : Nat) (x3 : Int32), tyOK Γ (0, 7) x0 → tyOK Γ (0, 8) x1 → tyOK Γ (0, 4) x2 → ∀ r, F 1 σ x0 x1 x2 x3 = some r → CT l G yX7_readCond cX7_readCond 5 (some .boolean) d 0 0 [.ref (G.2.1 x0), .ref (G.2.1 x1), .ref (G.2.1 x2), .int x3] Γ σ (PP (some (.int r.1)) Γ r.2)) (hF2 : ∀ (d : Nat), e ≤ d → ∀ (σ : mm) (x0 : Nat) (x1 : Nat) (x2 : Nat) (x3 : Int32), tyOK Γ (0, 7) x0 → tyOK Γ (0, 8) x1 → tyOK Γ (0, 4) x2 → ∀ r, F 2 σ x0 x1 x2 x3 = some r → CT l G yX7_readOne cX7_readOne 5 (some .boolean) d 0 0 [.ref (G.2.1 x0), .ref (G.2.1 x1), .ref (G.2.1 x2), .int x3] Γ σ (PP (some (.int r.1)) Γ r.2)) (σ : mm)     (r : (Int32 × mm)) (h : fX7_readAll_b64 F Γ.2 σ  = some r) (hQ : Q (some (.int r.1)) Γ r.2) : WP l G yX7_readAll cX7_readAll 5 (some .boolean) d 0 0 Q 0 0 64 [] [] Γ σ := by
  unfold fX7_readAll_b64 at h
  refine r_iconst (v := 1) dX7_readAll_64 (by decide) ?_
  obtain rfl := Option.some.inj h
  exact r_zreturn dX7_readAll_65 rfl (by decide) hQ (Nat.le_refl _) (Nat.le_refl _)
theorem kX7_readAll {l : Launch} {G : gg} {Γ : ly} {σ : mm} (d : Nat) (hdd : 3 ≤ d) {F : Nat → mm → Nat → Nat → Nat → Int32 → Option (Int32 × mm)} {e : Nat} (hde : e + 1 ≤ d) (hF0 : ∀ (d : Nat), e ≤ d → ∀ (σ : mm) (x0 : Nat) (x1 : Nat) (x2 : Nat) (x3 : Int32), tyOK Γ (0, 7) x0 → tyOK Γ (0, 8) x1 → tyOK Γ (0, 4) x2 → ∀ r, F 0 σ x0 x1 x2 x3 = some r → CT l G yX7_readAll cX7_readAll 5 (some .boolean) d 0 0 [.ref (G.2.1 x0), .ref (G.2.1 x1), .ref (G.2.1 x2), .int x3] Γ σ (PP (some (.int r.1)) Γ r.2)) (hF1 : ∀ (d : Nat), e ≤ d → ∀ (σ : mm) (x0 : Nat) (x1 : Nat) (x2 : Nat) (x3 : Int32), tyOK Γ (0, 7) x0 → tyOK Γ (0, 8) x1 → tyOK Γ (0, 4) x2 → ∀ r, F 1 σ x0 x1 x2 x3 = some r → CT l G yX7_readCond cX7_readCond 5 (some .boolean) d 0 0 [.ref (G.2.1 x0), .ref (G.2.1 x1), .ref (G.2.1 x2), .int x3] Γ σ (PP (some (.int r.1)) Γ r.2)) (hF2 : ∀ (d : Nat), e ≤ d → ∀ (σ : mm) (x0 : Nat) (x1 : Nat) (x2 : Nat) (x3 : Int32), tyOK Γ (0, 7) x0 → tyOK Γ (0, 8) x1 → tyOK Γ (0, 4) x2 → ∀ r, F 2 σ x0 x1 x2 x3 = some r → CT l G yX7_readOne cX7_readOne 5 (some .boolean) d 0 0 [.ref (G.2.1 x0), .ref (G.2.1 x1), .ref (G.2.1 x2), .int x3] Γ σ (PP (some (.int r.1)) Γ r.2)) (x0 : Nat) (x1 : Nat) (x2 : Nat) (x3 : Int32) (t0 : tyOK Γ (0, 7) x0) (t1 : tyOK Γ (0, 8) x1) (t2 : tyOK Γ (0, 4) x2) (r : (Int32 × mm)) (h : fX7_readAll F Γ.2 σ x0 x1 x2 x3 = some r) : CT l G yX7_readAll cX7_readAll 5 (some .boolean) d 0 0 [.ref (G.2.1 x0), .ref (G.2.1 x1), .ref (G.2.1 x2), .int x3] Γ σ (PP (some (.int r.1)) Γ r.2) := by
  refine CT.ofWP (by decide) (Nat.le_of_ble_eq_true rfl) ?_
  have hQ : PP (some (.int r.1)) Γ r.2 (some (.int r.1)) Γ r.2 := PP.self
  generalize PP (some (.int r.1)) Γ r.2 = Q at hQ ⊢
  show WP l G yX7_readAll cX7_readAll 5 (some .boolean) d 0 0 Q 0 0 0 [(0, .ref (G.2.1 x0)), (1, .ref (G.2.1 x1)), (2, .ref (G.2.1 x2)), (3, .int x3)] [] Γ σ
  unfold fX7_readAll at h
  refine r_aload_n 0 dX7_readAll_0 rfl ?_
  refine r_aload_n 1 dX7_readAll_1 rfl ?_
  refine r_aload_n 2 dX7_readAll_2 rfl ?_
  refine r_iload_n 3 dX7_readAll_3 rfl ?_
  obtain ⟨v1, τ2, ev1, h⟩ := bd2_some h
  refine q_cVI [.ref (G.2.1 x1), .ref (G.2.1 x2), .int x3] dX7_readAll_4 cv_X7_71 (ci := 7) rfl rfl t0 rfl rfl (Nat.le_of_ble_eq_true rfl) (by omega) (hF2 (d - 1) (by omega) σ x0 x1 x2 x3 t0 t1 t2 (v1, τ2) ev1) ?_
  refine r_if_ne 12 dX7_readAll_7 (by decide) h (fun _ h => ?_) (fun _ h => ?_)
  · refine r_iconst (v := 0) dX7_readAll_12 (by decide) ?_
    refine r_istore (lv' := [(4, .int (0 : Int32)), (0, .ref (G.2.1 x0)), (1, .ref (G.2.1 x1)), (2, .ref (G.2.1 x2)), (3, .int x3)]) dX7_readAll_13 (by decide) rfl ?_
    obtain ⟨b3, eb3, h⟩ := bd0_some h
    refine r_pick [1, 2, 3, 4, 0] rfl ?_
    refine sX7_readAll_L15 hdd hde hF0 hF1 hF2 x0 x1 x2 x3 t0 t1 t2 (K := fun b => b = b3) ?_ ?_ 1000 ((0 : Int32), τ2) b3 eb3 rfl
    · rintro τ4 rfl
      have h := cs2_0 h
      refine r_iconst (v := 0) dX7_readAll_46 (by decide) ?_
      obtain rfl := Option.some.inj h
      exact r_zreturn dX7_readAll_47 rfl (by decide) hQ (Nat.le_refl _) (Nat.le_refl _)
    · rintro τ5 rfl
      have h := cs2_1 h
      exact tX7_readAll_b64 hdd hde hF0 hF1 hF2 τ5  _ h hQ
  · refine r_iconst (v := 0) dX7_readAll_10 (by decide) ?_
    obtain rfl := Option.some.inj h
    exact r_zreturn dX7_readAll_11 rfl (by decide) hQ (Nat.le_refl _) (Nat.le_refl _)
theorem sX7_readCond_L15 {l : Launch} {G : gg} {Γ : ly} {d : Nat} {Q : Option Value → ly → mm → Prop} (hdd : 3 ≤ d) {F : Nat → mm → Nat → Nat → Nat → Int32 → Option (Int32 × mm)} {e : Nat} (hde : e + 1 ≤ d) (hF0 : ∀ (d : Nat), e ≤ d → ∀ (σ : mm) (x0 : Nat) (x1 : Nat) (x2 : Nat) (x3 : Int32), tyOK Γ (0, 7) x0 → tyOK Γ (0, 8) x1 → tyOK Γ (0, 4) x2 → ∀ r, F 0 σ x0 x1 x2 x3 = some r → CT l G yX7_readAll cX7_readAll 5 (some .boolean) d 0 0 [.ref (G.2.1 x0), .ref (G.2.1 x1), .ref (G.2.1 x2), .int x3] Γ σ (PP (some (.int r.1)) Γ r.2)) (hF1 : ∀ (d : Nat), e ≤ d → ∀ (σ : mm) (x0 : Nat) (x1 : Nat) (x2 : Nat) (x3 : Int32), tyOK Γ (0, 7) x0 → tyOK Γ (0, 8) x1 → tyOK Γ (0, 4) x2 → ∀ r, F 1 σ x0 x1 x2 x3 = some r → CT l G yX7_readCond cX7_readCond 5 (some .boolean) d 0 0 [.ref (G.2.1 x0), .ref (G.2.1 x1), .ref (G.2.1 x2), .int x3] Γ σ (PP (some (.int r.1)) Γ r.2)) (hF2 : ∀ (d : Nat), e ≤ d → ∀ (σ : mm) (x0 : Nat) (x1 : Nat) (x2 : Nat) (x3 : Int32), tyOK Γ (0, 7) x0 → tyOK Γ (0, 8) x1 → tyOK Γ (0, 4) x2 → ∀ r, F 2 σ x0 x1 x2 x3 = some r → CT l G yX7_readOne cX7_readOne 5 (some .boolean) d 0 0 [.ref (G.2.1 x0), .ref (G.2.1 x1), .ref (G.2.1 x2), .int x3] Γ σ (PP (some (.int r.1)) Γ r.2)) (x0 : Nat) (x1 : Nat) (x2 : Nat) (x3 : Int32) (t0 : tyOK Γ (0, 7) x0) (t1 : tyOK Γ (0, 8) x1) (t2 : tyOK Γ (0, 4) x2) {K : (mm ⊕ mm) → Prop} (kx0 : ∀ (σ9 : mm), K (.inl σ9) → WP l G yX7_readCond cX7_readCond 5 (some .boolean) d 0 0 Q 0 0 46 [] [] Γ σ9) (kx1 : ∀ (σ9 : mm), K (.inr σ9) → WP l G yX7_readCond cX7_readCond 5 (some .boolean) d 0 0 Q 0 0 64 [] [] Γ σ9) : ∀ (N : Nat) (s : (Int32 × mm)) (b : (mm ⊕ mm)), loopN (fX7_readCond_L15 F Γ.2 x0 x1 x2 x3) N s = some b → K b → WP l G yX7_readCond cX7_readCond 5 (some .boolean) d 0 0 Q 0 0 15 [(0, .ref (G.2.1 x0)), (1, .ref (G.2.1 x1)), (2, .ref (G.2.1 x2)), (3, .int x3), (4, .int s.1)] [] Γ s.2 := by
  refine r_loop (f := fX7_readCond_L15 F Γ.2 x0 x1 x2 x3) (hlv := fun s => [(0, .ref (G.2.1 x0)), (1, .ref (G.2.1 x1)), (2, .ref (G.2.1 x2)), (3, .int x3), (4, .int s.1)]) (hsg := fun s => s.2) ?_
  rintro ⟨x4, σ⟩ r h hb hx
  have hb : ∀ (x4 : Int32) (σ : mm), r = .inl (x4, σ) → WP l G yX7_readCond cX7_readCond 5 (some .boolean) d 0 0 Q 0 0 15 [(0, .ref (G.2.1 x0)), (1, .ref (G.2.1 x1)), (2, .ref (G.2.1 x2)), (3, .int x3), (4, .int x4)] [] Γ σ := fun x4 σ e => hb (x4, σ) e
  have hx0 : ∀ (σ9 : mm), r = .inr (.inl σ9) → WP l G yX7_readCond cX7_readCond 5 (some .boolean) d 0 0 Q 0 0 46 [] [] Γ σ9 := fun σ9 e => kx0 σ9 (hx _ e)
  have hx1 : ∀ (σ9 : mm), r = .inr (.inr σ9) → WP l G yX7_readCond cX7_readCond 5 (some .boolean) d 0 0 Q 0 0 64 [] [] Γ σ9 := fun σ9 e => kx1 σ9 (hx _ e)
  unfold fX7_readCond_L15 at h
  have h := un2_some h
  show WP l G yX7_readCond cX7_readCond 5 (some .boolean) d 0 0 Q 0 0 15 [(0, .ref (G.2.1 x0)), (1, .ref (G.2.1 x1)), (2, .ref (G.2.1 x2)), (3, .int x3), (4, .int x4)] [] Γ σ
  refine r_iload 4 dX7_readCond_15 rfl ?_
  refine r_bipush (v := 20) dX7_readCond_17 (by decide) ?_
  refine r_icmp_ge 64 dX7_readCond_19 (by decide) h (fun _ h => ?_) (fun _ h => ?_)
  · obtain rfl := Option.some.inj h
    refine r_pick [] rfl ?_
    exact hx1 _ rfl
  · refine r_aload_n 1 dX7_readCond_22 rfl ?_
    refine q_getR (e9 := (100, 0)) dX7_readCond_23 fd_X7_61 t1 rfl h (fun r1 tr1 h => ?_)
    refine r_word 19 dX7_readCond_26 fw_X7_64 (by decide) ?_
    refine r_acmp_ne 64 dX7_readCond_29 (by decide) tr1 (tyW (Γ := Γ) (i := 19) (by decide)) h (fun _ h => ?_) (fun _ h => ?_)
    · obtain rfl := Option.some.inj h
      refine r_pick [] rfl ?_
      exact hx1 _ rfl
    · refine r_aload_n 1 dX7_readCond_32 rfl ?_
      obtain ⟨τ2, eτ2, h⟩ := bd0_some h
      refine q_cVV [] dX7_readCond_33 cv_X7_44 (ci := 8) rfl rfl t1 rfl rfl (Nat.le_of_ble_eq_true rfl) (by omega) (kX8_next (d - 1) (by omega) x1 t1 τ2 eτ2) ?_
      refine r_aload_n 0 dX7_readCond_36 rfl ?_
      refine r_aload_n 1 dX7_readCond_37 rfl ?_
      refine r_aload_n 2 dX7_readCond_38 rfl ?_
      refine r_iload_n 3 dX7_readCond_39 rfl ?_
      obtain ⟨v3, τ4, ev3, h⟩ := bd2_some h
      refine q_cVI [.ref (G.2.1 x1), .ref (G.2.1 x2), .int x3] dX7_readCond_40 cv_X7_58 (ci := 7) rfl rfl t0 rfl rfl (Nat.le_of_ble_eq_true rfl) (by omega) (hF0 (d - 1) (by omega) τ2 x0 x1 x2 x3 t0 t1 t2 (v3, τ4) ev3) ?_
      refine r_if_ne 48 dX7_readCond_43 (by decide) h (fun _ h => ?_) (fun _ h => ?_)
      · refine r_aload_n 0 dX7_readCond_48 rfl ?_
        refine r_word 19 dX7_readCond_49 fw_X7_64 (by decide) ?_
        refine r_iconst (v := 0) dX7_readCond_52 (by decide) ?_
        refine r_iconst (v := 0) dX7_readCond_53 (by decide) ?_
        obtain ⟨v5, τ6, ev5, h⟩ := bd2_some h
        refine q_cVI [.ref (G.2.1 19), .int (0 : Int32), .int (0 : Int32)] dX7_readCond_54 cv_X7_67 (ci := 7) rfl rfl t0 rfl rfl (Nat.le_of_ble_eq_true rfl) (by omega) (kX7_addStep (d - 1) (by omega) x0 19 (0 : Int32) (0 : Int32) t0 (tyW (Γ := Γ) (i := 19) (by decide)) (v5, τ6) ev5) ?_
        refine r_pop dX7_readCond_57 rfl ?_
        refine q_iinc (v := 1) 4 (fun v7 => [(4, .int v7), (0, .ref (G.2.1 x0)), (1, .ref (G.2.1 x1)), (2, .ref (G.2.1 x2)), (3, .int x3)]) dX7_readCond_58 rfl (by decide) (by decide) (fun _ => rfl) h (fun v7 h => ?_)
        refine r_goto 15 dX7_readCond_61 (by decide) ?_
        obtain rfl := Option.some.inj h
        refine r_pick [1, 2, 3, 4, 0] rfl ?_
        exact hb _ _ rfl
      · obtain rfl := Option.some.inj h
        refine r_pick [] rfl ?_
        exact hx0 _ rfl
theorem tX7_readCond_b64 {l : Launch} {G : gg} {Γ : ly} {d : Nat} {Q : Option Value → ly → mm → Prop} (hdd : 3 ≤ d) {F : Nat → mm → Nat → Nat → Nat → Int32 → Option (Int32 × mm)} {e : Nat} (hde : e + 1 ≤ d) (hF0 : ∀ (d : Nat), e ≤ d → ∀ (σ : mm) (x0 : Nat) (x1 : Nat) (x2 : Nat) (x3 : Int32), tyOK Γ (0, 7) x0 → tyOK Γ (0, 8) x1 → tyOK Γ (0, 4) x2 → ∀ r, F 0 σ x0 x1 x2 x3 = some r → CT l G yX7_readAll cX7_readAll 5 (some .boolean) d 0 0 [.ref (G.2.1 x0), .ref (G.2.1 x1), .ref (G.2.1 x2), .int x3] Γ σ (PP (some (.int r.1)) Γ r.2)) (hF1 : ∀ (d : Nat), e ≤ d → ∀ (σ : mm) (x0 : Nat) (x1 : Nat) (x2 : Nat) (x3 : Int32), tyOK Γ (0, 7) x0 → tyOK Γ (0, 8) x1 → tyOK Γ (0, 4) x2 → ∀ r, F 1 σ x0 x1 x2 x3 = some r → CT l G yX7_readCond cX7_readCond 5 (some .boolean) d 0 0 [.ref (G.2.1 x0), .ref (G.2.1 x1), .ref (G.2.1 x2), .int x3] Γ σ (PP (some (.int r.1)) Γ r.2)) (hF2 : ∀ (d : Nat), e ≤ d → ∀ (σ : mm) (x0 : Nat) (x1 : Nat) (x2 : Nat) (x3 : Int32), tyOK Γ (0, 7) x0 → tyOK Γ (0, 8) x1 → tyOK Γ (0, 4) x2 → ∀ r, F 2 σ x0 x1 x2 x3 = some r → CT l G yX7_readOne cX7_readOne 5 (some .boolean) d 0 0 [.ref (G.2.1 x0), .ref (G.2.1 x1), .ref (G.2.1 x2), .int x3] Γ σ (PP (some (.int r.1)) Γ r.2)) (σ : mm)     (r : (Int32 × mm)) (h : fX7_readCond_b64 F Γ.2 σ  = some r) (hQ : Q (some (.int r.1)) Γ r.2) : WP l G yX7_readCond cX7_readCond 5 (some .boolean) d 0 0 Q 0 0 64 [] [] Γ σ := by
  unfold fX7_readCond_b64 at h
  refine r_iconst (v := 1) dX7_readCond_64 (by decide) ?_
  obtain rfl := Option.some.inj h
  exact r_zreturn dX7_readCond_65 rfl (by decide) hQ (Nat.le_refl _) (Nat.le_refl _)
theorem kX7_readCond {l : Launch} {G : gg} {Γ : ly} {σ : mm} (d : Nat) (hdd : 3 ≤ d) {F : Nat → mm → Nat → Nat → Nat → Int32 → Option (Int32 × mm)} {e : Nat} (hde : e + 1 ≤ d) (hF0 : ∀ (d : Nat), e ≤ d → ∀ (σ : mm) (x0 : Nat) (x1 : Nat) (x2 : Nat) (x3 : Int32), tyOK Γ (0, 7) x0 → tyOK Γ (0, 8) x1 → tyOK Γ (0, 4) x2 → ∀ r, F 0 σ x0 x1 x2 x3 = some r → CT l G yX7_readAll cX7_readAll 5 (some .boolean) d 0 0 [.ref (G.2.1 x0), .ref (G.2.1 x1), .ref (G.2.1 x2), .int x3] Γ σ (PP (some (.int r.1)) Γ r.2)) (hF1 : ∀ (d : Nat), e ≤ d → ∀ (σ : mm) (x0 : Nat) (x1 : Nat) (x2 : Nat) (x3 : Int32), tyOK Γ (0, 7) x0 → tyOK Γ (0, 8) x1 → tyOK Γ (0, 4) x2 → ∀ r, F 1 σ x0 x1 x2 x3 = some r → CT l G yX7_readCond cX7_readCond 5 (some .boolean) d 0 0 [.ref (G.2.1 x0), .ref (G.2.1 x1), .ref (G.2.1 x2), .int x3] Γ σ (PP (some (.int r.1)) Γ r.2)) (hF2 : ∀ (d : Nat), e ≤ d → ∀ (σ : mm) (x0 : Nat) (x1 : Nat) (x2 : Nat) (x3 : Int32), tyOK Γ (0, 7) x0 → tyOK Γ (0, 8) x1 → tyOK Γ (0, 4) x2 → ∀ r, F 2 σ x0 x1 x2 x3 = some r → CT l G yX7_readOne cX7_readOne 5 (some .boolean) d 0 0 [.ref (G.2.1 x0), .ref (G.2.1 x1), .ref (G.2.1 x2), .int x3] Γ σ (PP (some (.int r.1)) Γ r.2)) (x0 : Nat) (x1 : Nat) (x2 : Nat) (x3 : Int32) (t0 : tyOK Γ (0, 7) x0) (t1 : tyOK Γ (0, 8) x1) (t2 : tyOK Γ (0, 4) x2) (r : (Int32 × mm)) (h : fX7_readCond F Γ.2 σ x0 x1 x2 x3 = some r) : CT l G yX7_readCond cX7_readCond 5 (some .boolean) d 0 0 [.ref (G.2.1 x0), .ref (G.2.1 x1), .ref (G.2.1 x2), .int x3] Γ σ (PP (some (.int r.1)) Γ r.2) := by
  refine CT.ofWP (by decide) (Nat.le_of_ble_eq_true rfl) ?_
  have hQ : PP (some (.int r.1)) Γ r.2 (some (.int r.1)) Γ r.2 := PP.self
  generalize PP (some (.int r.1)) Γ r.2 = Q at hQ ⊢
  show WP l G yX7_readCond cX7_readCond 5 (some .boolean) d 0 0 Q 0 0 0 [(0, .ref (G.2.1 x0)), (1, .ref (G.2.1 x1)), (2, .ref (G.2.1 x2)), (3, .int x3)] [] Γ σ
  unfold fX7_readCond at h
  refine r_aload_n 0 dX7_readCond_0 rfl ?_
  refine r_aload_n 1 dX7_readCond_1 rfl ?_
  refine r_aload_n 2 dX7_readCond_2 rfl ?_
  refine r_iload_n 3 dX7_readCond_3 rfl ?_
  obtain ⟨v1, τ2, ev1, h⟩ := bd2_some h
  refine q_cVI [.ref (G.2.1 x1), .ref (G.2.1 x2), .int x3] dX7_readCond_4 cv_X7_58 (ci := 7) rfl rfl t0 rfl rfl (Nat.le_of_ble_eq_true rfl) (by omega) (hF0 (d - 1) (by omega) σ x0 x1 x2 x3 t0 t1 t2 (v1, τ2) ev1) ?_
  refine r_if_ne 12 dX7_readCond_7 (by decide) h (fun _ h => ?_) (fun _ h => ?_)
  · refine r_iconst (v := 0) dX7_readCond_12 (by decide) ?_
    refine r_istore (lv' := [(4, .int (0 : Int32)), (0, .ref (G.2.1 x0)), (1, .ref (G.2.1 x1)), (2, .ref (G.2.1 x2)), (3, .int x3)]) dX7_readCond_13 (by decide) rfl ?_
    obtain ⟨b3, eb3, h⟩ := bd0_some h
    refine r_pick [1, 2, 3, 4, 0] rfl ?_
    refine sX7_readCond_L15 hdd hde hF0 hF1 hF2 x0 x1 x2 x3 t0 t1 t2 (K := fun b => b = b3) ?_ ?_ 1000 ((0 : Int32), τ2) b3 eb3 rfl
    · rintro τ4 rfl
      have h := cs2_0 h
      refine r_iconst (v := 0) dX7_readCond_46 (by decide) ?_
      obtain rfl := Option.some.inj h
      exact r_zreturn dX7_readCond_47 rfl (by decide) hQ (Nat.le_refl _) (Nat.le_refl _)
    · rintro τ5 rfl
      have h := cs2_1 h
      exact tX7_readCond_b64 hdd hde hF0 hF1 hF2 τ5  _ h hQ
  · refine r_iconst (v := 0) dX7_readCond_10 (by decide) ?_
    obtain rfl := Option.some.inj h
    exact r_zreturn dX7_readCond_11 rfl (by decide) hQ (Nat.le_refl _) (Nat.le_refl _)
theorem kallX7_readAll {l : Launch} {G : gg} {Γ : ly} : ∀ n : Nat, (∀ (d : Nat), 3 + n ≤ d → ∀ (σ : mm) (x0 : Nat) (x1 : Nat) (x2 : Nat) (x3 : Int32), tyOK Γ (0, 7) x0 → tyOK Γ (0, 8) x1 → tyOK Γ (0, 4) x2 → ∀ r, gX7_readAll Γ.2 n 0 σ x0 x1 x2 x3 = some r → CT l G yX7_readAll cX7_readAll 5 (some .boolean) d 0 0 [.ref (G.2.1 x0), .ref (G.2.1 x1), .ref (G.2.1 x2), .int x3] Γ σ (PP (some (.int r.1)) Γ r.2)) ∧ (∀ (d : Nat), 3 + n ≤ d → ∀ (σ : mm) (x0 : Nat) (x1 : Nat) (x2 : Nat) (x3 : Int32), tyOK Γ (0, 7) x0 → tyOK Γ (0, 8) x1 → tyOK Γ (0, 4) x2 → ∀ r, gX7_readAll Γ.2 n 1 σ x0 x1 x2 x3 = some r → CT l G yX7_readCond cX7_readCond 5 (some .boolean) d 0 0 [.ref (G.2.1 x0), .ref (G.2.1 x1), .ref (G.2.1 x2), .int x3] Γ σ (PP (some (.int r.1)) Γ r.2)) ∧ (∀ (d : Nat), 3 + n ≤ d → ∀ (σ : mm) (x0 : Nat) (x1 : Nat) (x2 : Nat) (x3 : Int32), tyOK Γ (0, 7) x0 → tyOK Γ (0, 8) x1 → tyOK Γ (0, 4) x2 → ∀ r, gX7_readAll Γ.2 n 2 σ x0 x1 x2 x3 = some r → CT l G yX7_readOne cX7_readOne 5 (some .boolean) d 0 0 [.ref (G.2.1 x0), .ref (G.2.1 x1), .ref (G.2.1 x2), .int x3] Γ σ (PP (some (.int r.1)) Γ r.2)) := by
  intro n
  induction n with
  | zero => exact ⟨fun d _ σ _ _ _ _ _ _ _ r h => (nomatch h), fun d _ σ _ _ _ _ _ _ _ r h => (nomatch h), fun d _ σ _ _ _ _ _ _ _ r h => (nomatch h)⟩
  | succ n ih =>
    obtain ⟨hF0, hF1, hF2⟩ := ih
    refine ⟨?_, ?_, ?_⟩
    · intro d hd σ x0 x1 x2 x3 t0 t1 t2 r h
      exact kX7_readAll (F := gX7_readAll Γ.2 n) (e := 3 + n) d (by omega) (by omega) hF0 hF1 hF2 x0 x1 x2 x3 t0 t1 t2 r h
    · intro d hd σ x0 x1 x2 x3 t0 t1 t2 r h
      exact kX7_readCond (F := gX7_readAll Γ.2 n) (e := 3 + n) d (by omega) (by omega) hF0 hF1 hF2 x0 x1 x2 x3 t0 t1 t2 r h
    · intro d hd σ x0 x1 x2 x3 t0 t1 t2 r h
      exact kX7_readOne (F := gX7_readAll Γ.2 n) (e := 3 + n) d (by omega) (by omega) hF0 hF1 hF2 x0 x1 x2 x3 t0 t1 t2 r h
theorem kgX7_readAll {l : Launch} {G : gg} {Γ : ly} (n : Nat) : ∀ (d : Nat), 3 + n ≤ d → ∀ (σ : mm) (x0 : Nat) (x1 : Nat) (x2 : Nat) (x3 : Int32), tyOK Γ (0, 7) x0 → tyOK Γ (0, 8) x1 → tyOK Γ (0, 4) x2 → ∀ r, gX7_readAll Γ.2 n 0 σ x0 x1 x2 x3 = some r → CT l G yX7_readAll cX7_readAll 5 (some .boolean) d 0 0 [.ref (G.2.1 x0), .ref (G.2.1 x1), .ref (G.2.1 x2), .int x3] Γ σ (PP (some (.int r.1)) Γ r.2) := (kallX7_readAll n).1
theorem kgX7_readCond {l : Launch} {G : gg} {Γ : ly} (n : Nat) : ∀ (d : Nat), 3 + n ≤ d → ∀ (σ : mm) (x0 : Nat) (x1 : Nat) (x2 : Nat) (x3 : Int32), tyOK Γ (0, 7) x0 → tyOK Γ (0, 8) x1 → tyOK Γ (0, 4) x2 → ∀ r, gX7_readAll Γ.2 n 1 σ x0 x1 x2 x3 = some r → CT l G yX7_readCond cX7_readCond 5 (some .boolean) d 0 0 [.ref (G.2.1 x0), .ref (G.2.1 x1), .ref (G.2.1 x2), .int x3] Γ σ (PP (some (.int r.1)) Γ r.2) := (kallX7_readAll n).2.1
theorem kgX7_readOne {l : Launch} {G : gg} {Γ : ly} (n : Nat) : ∀ (d : Nat), 3 + n ≤ d → ∀ (σ : mm) (x0 : Nat) (x1 : Nat) (x2 : Nat) (x3 : Int32), tyOK Γ (0, 7) x0 → tyOK Γ (0, 8) x1 → tyOK Γ (0, 4) x2 → ∀ r, gX7_readAll Γ.2 n 2 σ x0 x1 x2 x3 = some r → CT l G yX7_readOne cX7_readOne 5 (some .boolean) d 0 0 [.ref (G.2.1 x0), .ref (G.2.1 x1), .ref (G.2.1 x2), .int x3] Γ σ (PP (some (.int r.1)) Γ r.2) := (kallX7_readAll n).2.2
theorem tX7_read_b47 {l : Launch} {G : gg} {Γ : ly} {d : Nat} {Q : Option Value → ly → mm → Prop} (hdd : 104 ≤ d) (σ : mm)  (s0 : Int32)   (r : (Int32 × mm)) (h : fX7_read_b47 Γ.2 σ s0 = some r) (hQ : Q (some (.int r.1)) Γ r.2) : WP l G yX7_read cX7_read 3 (some .boolean) d 0 0 Q 0 0 47 [] [.int s0] Γ σ := by
  unfold fX7_read_b47 at h
  obtain ⟨hbz, h⟩ := rZ_some h
  obtain rfl := Option.some.inj h
  exact r_zreturn dX7_read_47 rfl hbz hQ (Nat.le_refl _) (Nat.le_refl _)
theorem tX7_read_b42 {l : Launch} {G : gg} {Γ : ly} {d : Nat} {Q : Option Value → ly → mm → Prop} (hdd : 104 ≤ d) (σ : mm)     (r : (Int32 × mm)) (h : fX7_read_b42 Γ.2 σ  = some r) (hQ : Q (some (.int r.1)) Γ r.2) : WP l G yX7_read cX7_read 3 (some .boolean) d 0 0 Q 0 0 42 [] [] Γ σ := by
  unfold fX7_read_b42 at h
  refine r_iconst (v := 1) dX7_read_42 (by decide) ?_
  refine r_goto 47 dX7_read_43 (by decide) ?_
  exact tX7_read_b47 hdd σ (1 : Int32)  _ h hQ
theorem kX7_read {l : Launch} {G : gg} {Γ : ly} {σ : mm} (d : Nat) (hdd : 104 ≤ d) (x0 : Nat) (x1 : Nat) (x2 : Nat) (t0 : tyOK Γ (0, 7) x0) (t1 : tyOK Γ (0, 8) x1) (t2 : tyOK Γ (0, 4) x2) (r : (Int32 × mm)) (h : fX7_read Γ.2 σ x0 x1 x2 = some r) : CT l G yX7_read cX7_read 3 (some .boolean) d 0 0 [.ref (G.2.1 x0), .ref (G.2.1 x1), .ref (G.2.1 x2)] Γ σ (PP (some (.int r.1)) Γ r.2) := by
  refine CT.ofWP (by decide) (Nat.le_of_ble_eq_true rfl) ?_
  have hQ : PP (some (.int r.1)) Γ r.2 (some (.int r.1)) Γ r.2 := PP.self
  generalize PP (some (.int r.1)) Γ r.2 = Q at hQ ⊢
  show WP l G yX7_read cX7_read 3 (some .boolean) d 0 0 Q 0 0 0 [(0, .ref (G.2.1 x0)), (1, .ref (G.2.1 x1)), (2, .ref (G.2.1 x2))] [] Γ σ
  unfold fX7_read at h
  refine r_aload_n 0 dX7_read_0 rfl ?_
  obtain ⟨τ1, eτ1, h⟩ := bd0_some h
  refine q_cVV [] dX7_read_1 cv_X7_35 (ci := 7) rfl rfl t0 rfl rfl (Nat.le_of_ble_eq_true rfl) (by omega) (kX7_forget (d - 1) (by omega) x0 t0 τ1 eτ1) ?_
  refine r_aload_n 1 dX7_read_4 rfl ?_
  refine r_sipush (v := 200) dX7_read_5 (by decide) ?_
  obtain ⟨τ2, eτ2, h⟩ := bd0_some h
  refine q_cVV [.int (200 : Int32)] dX7_read_8 cv_X7_38 (ci := 8) rfl rfl t1 rfl rfl (Nat.le_of_ble_eq_true rfl) (by omega) (kX8_begin (d - 1) (by omega) x1 (200 : Int32) t1 τ2 eτ2) ?_
  refine r_aload_n 1 dX7_read_11 rfl ?_
  obtain ⟨τ3, eτ3, h⟩ := bd0_some h
  refine q_cVV [] dX7_read_12 cv_X7_44 (ci := 8) rfl rfl t1 rfl rfl (Nat.le_of_ble_eq_true rfl) (by omega) (kX8_next (d - 1) (by omega) x1 t1 τ3 eτ3) ?_
  refine r_aload_n 0 dX7_read_15 rfl ?_
  refine r_aload_n 1 dX7_read_16 rfl ?_
  refine r_aload_n 2 dX7_read_17 rfl ?_
  refine r_iconst (v := 0) dX7_read_18 (by decide) ?_
  obtain ⟨v4, τ5, ev4, h⟩ := bd2_some h
  refine q_cVI [.ref (G.2.1 x1), .ref (G.2.1 x2), .int (0 : Int32)] dX7_read_19 cv_X7_47 (ci := 7) rfl rfl t0 rfl rfl (Nat.le_of_ble_eq_true rfl) (by omega) (kgX7_readCond 100 (d - 1) (by omega) τ3 x0 x1 x2 (0 : Int32) t0 t1 t2 (v4, τ5) ev4) ?_
  refine r_if_ne 27 dX7_read_22 (by decide) h (fun _ h => ?_) (fun _ h => ?_)
  · refine r_aload_n 1 dX7_read_27 rfl ?_
    refine r_getI dX7_read_28 fd_X7_51 t1 ?_
    refine r_if_eq 42 dX7_read_31 (by decide) h (fun _ h => ?_) (fun _ h => ?_)
    · refine r_pick [] rfl ?_
      exact tX7_read_b42 hdd τ5  _ h hQ
    · refine r_aload_n 1 dX7_read_34 rfl ?_
      refine r_iconst (v := 1) dX7_read_35 (by decide) ?_
      obtain ⟨v6, τ7, ev6, h⟩ := bd2_some h
      refine q_cVI [.int (1 : Int32)] dX7_read_36 cv_X7_54 (ci := 8) rfl rfl t1 rfl rfl (Nat.le_of_ble_eq_true rfl) (by omega) (kX8_fails (d - 1) (by omega) x1 (1 : Int32) t1 (v6, τ7) ev6) ?_
      refine r_if_eq 46 dX7_read_39 (by decide) h (fun _ h => ?_) (fun _ h => ?_)
      · refine r_iconst (v := 0) dX7_read_46 (by decide) ?_
        refine r_pick [] rfl ?_
        exact tX7_read_b47 hdd τ7 (0 : Int32)  _ h hQ
      · refine r_pick [] rfl ?_
        exact tX7_read_b42 hdd τ7  _ h hQ
  · refine r_iconst (v := 0) dX7_read_25 (by decide) ?_
    obtain rfl := Option.some.inj h
    exact r_zreturn dX7_read_26 rfl (by decide) hQ (Nat.le_refl _) (Nat.le_refl _)
theorem tX7_compares_b71 {l : Launch} {G : gg} {Γ : ly} {d : Nat} {Q : Option Value → ly → mm → Prop} (hdd : 0 ≤ d) (σ : mm)  (s0 : Int32)   (r : Int32) (h : fX7_compares_b71 Γ.2 σ s0 = some r) (hQ : Q (some (.int r)) Γ σ) : WP l G yX7_compares cX7_compares 3 (some .boolean) d 0 0 Q 0 0 71 [] [.int s0] Γ σ := by
  unfold fX7_compares_b71 at h
  obtain ⟨hbz, h⟩ := rZ_some h
  obtain rfl := Option.some.inj h
  exact r_zreturn dX7_compares_71 rfl hbz hQ (Nat.le_refl _) (Nat.le_refl _)
theorem tX7_compares_b26 {l : Launch} {G : gg} {Γ : ly} {d : Nat} {Q : Option Value → ly → mm → Prop} (hdd : 0 ≤ d) (σ : mm)  (s0 : Int32)   (r : Int32) (h : fX7_compares_b26 Γ.2 σ s0 = some r) (hQ : Q (some (.int r)) Γ σ) : WP l G yX7_compares cX7_compares 3 (some .boolean) d 0 0 Q 0 0 26 [] [.int s0] Γ σ := by
  unfold fX7_compares_b26 at h
  obtain ⟨hbz, h⟩ := rZ_some h
  obtain rfl := Option.some.inj h
  exact r_zreturn dX7_compares_26 rfl hbz hQ (Nat.le_refl _) (Nat.le_refl _)
theorem kX7_compares {l : Launch} {G : gg} {Γ : ly} {σ : mm} (d : Nat) (hdd : 0 ≤ d) (x0 : Nat) (x1 : Int32) (x2 : Int32) (t0 : tyOK Γ (0, 7) x0) (r : Int32) (h : fX7_compares Γ.2 σ x0 x1 x2 = some r) : CT l G yX7_compares cX7_compares 3 (some .boolean) d 0 0 [.ref (G.2.1 x0), .int x1, .int x2] Γ σ (PP (some (.int r)) Γ σ) := by
  refine CT.ofWP (by decide) (Nat.le_of_ble_eq_true rfl) ?_
  have hQ : PP (some (.int r)) Γ σ (some (.int r)) Γ σ := PP.self
  generalize PP (some (.int r)) Γ σ = Q at hQ ⊢
  show WP l G yX7_compares cX7_compares 3 (some .boolean) d 0 0 Q 0 0 0 [(0, .ref (G.2.1 x0)), (1, .int x1), (2, .int x2)] [] Γ σ
  unfold fX7_compares at h
  refine r_aload_n 0 dX7_compares_0 rfl ?_
  refine q_getR (e9 := (1, 0)) dX7_compares_1 fd_X7_17 t0 rfl h (fun r1 tr1 h => ?_)
  refine r_iload_n 2 dX7_compares_4 rfl ?_
  refine q_iald dX7_compares_5 tr1 h (fun v2 h => ?_)
  refine r_bipush (v := 60) dX7_compares_6 (by decide) ?_
  refine r_icmp_ne 27 dX7_compares_8 (by decide) h (fun _ h => ?_) (fun _ h => ?_)
  · refine r_aload_n 0 dX7_compares_27 rfl ?_
    refine q_getR (e9 := (1, 0)) dX7_compares_28 fd_X7_17 t0 rfl h (fun r3 tr3 h => ?_)
    refine r_iload_n 2 dX7_compares_31 rfl ?_
    refine q_iald dX7_compares_32 tr3 h (fun v4 h => ?_)
    refine r_bipush (v := 62) dX7_compares_33 (by decide) ?_
    refine r_icmp_ne 56 dX7_compares_35 (by decide) h (fun _ h => ?_) (fun _ h => ?_)
    · refine r_iload_n 1 dX7_compares_56 rfl ?_
      refine r_aload_n 0 dX7_compares_57 rfl ?_
      refine q_getR (e9 := (1, 0)) dX7_compares_58 fd_X7_21 t0 rfl h (fun r5 tr5 h => ?_)
      refine r_iload_n 2 dX7_compares_61 rfl ?_
      refine q_iald dX7_compares_62 tr5 h (fun v6 h => ?_)
      refine r_icmp_ne 70 dX7_compares_63 (by decide) h (fun _ h => ?_) (fun _ h => ?_)
      · refine r_iconst (v := 0) dX7_compares_70 (by decide) ?_
        refine r_pick [] rfl ?_
        exact tX7_compares_b71 hdd σ (0 : Int32)  _ h hQ
      · refine r_iconst (v := 1) dX7_compares_66 (by decide) ?_
        refine r_goto 71 dX7_compares_67 (by decide) ?_
        refine r_pick [] rfl ?_
        exact tX7_compares_b71 hdd σ (1 : Int32)  _ h hQ
    · refine r_iload_n 1 dX7_compares_38 rfl ?_
      refine r_aload_n 0 dX7_compares_39 rfl ?_
      refine q_getR (e9 := (1, 0)) dX7_compares_40 fd_X7_21 t0 rfl h (fun r7 tr7 h => ?_)
      refine r_iload_n 2 dX7_compares_43 rfl ?_
      refine q_iald dX7_compares_44 tr7 h (fun v8 h => ?_)
      refine r_icmp_le 52 dX7_compares_45 (by decide) h (fun _ h => ?_) (fun _ h => ?_)
      · refine r_iconst (v := 0) dX7_compares_52 (by decide) ?_
        refine r_goto 71 dX7_compares_53 (by decide) ?_
        refine r_pick [] rfl ?_
        exact tX7_compares_b71 hdd σ (0 : Int32)  _ h hQ
      · refine r_iconst (v := 1) dX7_compares_48 (by decide) ?_
        refine r_goto 71 dX7_compares_49 (by decide) ?_
        refine r_pick [] rfl ?_
        exact tX7_compares_b71 hdd σ (1 : Int32)  _ h hQ
  · refine r_iload_n 1 dX7_compares_11 rfl ?_
    refine r_aload_n 0 dX7_compares_12 rfl ?_
    refine q_getR (e9 := (1, 0)) dX7_compares_13 fd_X7_21 t0 rfl h (fun r9 tr9 h => ?_)
    refine r_iload_n 2 dX7_compares_16 rfl ?_
    refine q_iald dX7_compares_17 tr9 h (fun v10 h => ?_)
    refine r_icmp_ge 25 dX7_compares_18 (by decide) h (fun _ h => ?_) (fun _ h => ?_)
    · refine r_iconst (v := 0) dX7_compares_25 (by decide) ?_
      refine r_pick [] rfl ?_
      exact tX7_compares_b26 hdd σ (0 : Int32)  _ h hQ
    · refine r_iconst (v := 1) dX7_compares_21 (by decide) ?_
      refine r_goto 26 dX7_compares_22 (by decide) ?_
      refine r_pick [] rfl ?_
      exact tX7_compares_b26 hdd σ (1 : Int32)  _ h hQ
theorem tX7_isSo_b90 {l : Launch} {G : gg} {Γ : ly} {d : Nat} {Q : Option Value → ly → mm → Prop} (hdd : 2 ≤ d) (σ : mm)  (s0 : Int32)   (r : Int32) (h : fX7_isSo_b90 Γ.2 σ s0 = some r) (hQ : Q (some (.int r)) Γ σ) : WP l G yX7_isSo cX7_isSo 5 (some .boolean) d 0 0 Q 0 0 90 [] [.int s0] Γ σ := by
  unfold fX7_isSo_b90 at h
  obtain ⟨hbz, h⟩ := rZ_some h
  obtain rfl := Option.some.inj h
  exact r_zreturn dX7_isSo_90 rfl hbz hQ (Nat.le_refl _) (Nat.le_refl _)
theorem tX7_isSo_b107 {l : Launch} {G : gg} {Γ : ly} {d : Nat} {Q : Option Value → ly → mm → Prop} (hdd : 2 ≤ d) (σ : mm)  (s0 : Int32)   (r : Int32) (h : fX7_isSo_b107 Γ.2 σ s0 = some r) (hQ : Q (some (.int r)) Γ σ) : WP l G yX7_isSo cX7_isSo 5 (some .boolean) d 0 0 Q 0 0 107 [] [.int s0] Γ σ := by
  unfold fX7_isSo_b107 at h
  obtain ⟨hbz, h⟩ := rZ_some h
  obtain rfl := Option.some.inj h
  exact r_zreturn dX7_isSo_107 rfl hbz hQ (Nat.le_refl _) (Nat.le_refl _)
theorem tX7_isSo_b141 {l : Launch} {G : gg} {Γ : ly} {d : Nat} {Q : Option Value → ly → mm → Prop} (hdd : 2 ≤ d) (σ : mm)  (s0 : Int32)   (r : Int32) (h : fX7_isSo_b141 Γ.2 σ s0 = some r) (hQ : Q (some (.int r)) Γ σ) : WP l G yX7_isSo cX7_isSo 5 (some .boolean) d 0 0 Q 0 0 141 [] [.int s0] Γ σ := by
  unfold fX7_isSo_b141 at h
  obtain ⟨hbz, h⟩ := rZ_some h
  obtain rfl := Option.some.inj h
  exact r_zreturn dX7_isSo_141 rfl hbz hQ (Nat.le_refl _) (Nat.le_refl _)
theorem tX7_isSo_b140 {l : Launch} {G : gg} {Γ : ly} {d : Nat} {Q : Option Value → ly → mm → Prop} (hdd : 2 ≤ d) (σ : mm)     (r : Int32) (h : fX7_isSo_b140 Γ.2 σ  = some r) (hQ : Q (some (.int r)) Γ σ) : WP l G yX7_isSo cX7_isSo 5 (some .boolean) d 0 0 Q 0 0 140 [] [] Γ σ := by
  unfold fX7_isSo_b140 at h
  refine r_iconst (v := 0) dX7_isSo_140 (by decide) ?_
  exact tX7_isSo_b141 hdd σ (0 : Int32)  _ h hQ
theorem tX7_isSo_b179 {l : Launch} {G : gg} {Γ : ly} {d : Nat} {Q : Option Value → ly → mm → Prop} (hdd : 2 ≤ d) (σ : mm)  (s0 : Int32)   (r : Int32) (h : fX7_isSo_b179 Γ.2 σ s0 = some r) (hQ : Q (some (.int r)) Γ σ) : WP l G yX7_isSo cX7_isSo 5 (some .boolean) d 0 0 Q 0 0 179 [] [.int s0] Γ σ := by
  unfold fX7_isSo_b179 at h
  obtain ⟨hbz, h⟩ := rZ_some h
  obtain rfl := Option.some.inj h
  exact r_zreturn dX7_isSo_179 rfl hbz hQ (Nat.le_refl _) (Nat.le_refl _)
theorem tX7_isSo_b174 {l : Launch} {G : gg} {Γ : ly} {d : Nat} {Q : Option Value → ly → mm → Prop} (hdd : 2 ≤ d) (σ : mm)     (r : Int32) (h : fX7_isSo_b174 Γ.2 σ  = some r) (hQ : Q (some (.int r)) Γ σ) : WP l G yX7_isSo cX7_isSo 5 (some .boolean) d 0 0 Q 0 0 174 [] [] Γ σ := by
  unfold fX7_isSo_b174 at h
  refine r_iconst (v := 1) dX7_isSo_174 (by decide) ?_
  refine r_goto 179 dX7_isSo_175 (by decide) ?_
  exact tX7_isSo_b179 hdd σ (1 : Int32)  _ h hQ
theorem kX7_isSo {l : Launch} {G : gg} {Γ : ly} {σ : mm} (d : Nat) (hdd : 2 ≤ d) (x0 : Nat) (x1 : Int32) (x2 : Nat) (x3 : Nat) (x4 : Int32) (t0 : tyOK Γ (0, 7) x0) (t2 : tyOK Γ (0, 3) x2) (t3 : tyOK Γ (0, 4) x3) (r : Int32) (h : fX7_isSo Γ.2 σ x0 x1 x2 x3 x4 = some r) : CT l G yX7_isSo cX7_isSo 5 (some .boolean) d 0 0 [.ref (G.2.1 x0), .int x1, .ref (G.2.1 x2), .ref (G.2.1 x3), .int x4] Γ σ (PP (some (.int r)) Γ σ) := by
  refine CT.ofWP (by decide) (Nat.le_of_ble_eq_true rfl) ?_
  have hQ : PP (some (.int r)) Γ σ (some (.int r)) Γ σ := PP.self
  generalize PP (some (.int r)) Γ σ = Q at hQ ⊢
  show WP l G yX7_isSo cX7_isSo 5 (some .boolean) d 0 0 Q 0 0 0 [(0, .ref (G.2.1 x0)), (1, .int x1), (2, .ref (G.2.1 x2)), (3, .ref (G.2.1 x3)), (4, .int x4)] [] Γ σ
  unfold fX7_isSo at h
  refine r_swm dX7_isSo_0 fw_X7_88 ?_
  refine r_aload_n 0 dX7_isSo_3 rfl ?_
  refine q_getR (e9 := (8, 0)) dX7_isSo_4 fd_X7_13 t0 rfl h (fun r1 tr1 h => ?_)
  refine r_iload_n 1 dX7_isSo_7 rfl ?_
  refine q_aald8 dX7_isSo_8 tr1 h (fun r2 tr2 h => ?_)
  refine q_cord dX7_isSo_9 cu_X7_93 rfl rfl tr2 (Nat.le_of_ble_eq_true rfl) (by omega) (k_ordinal (d - 1) r2 tr2) ?_
  refine q_swmld dX7_isSo_12 h (fun v3 h => ?_)
  rcases if_split h with ⟨q9, h⟩ | ⟨n0, h⟩
  · refine r_table (18 : Int32) 55 68 dX7_isSo_13 q9 (by decide) (by decide) rfl (by decide) ?_
    refine r_aload_n 2 dX7_isSo_68 rfl ?_
    refine r_iload 4 dX7_isSo_69 rfl ?_
    obtain ⟨v4, ev4, h⟩ := bd0_some h
    refine q_cVI [.int x4] dX7_isSo_71 cv_X7_135 (ci := 3) rfl rfl t2 rfl rfl (Nat.le_of_ble_eq_true rfl) (by omega) (kX3_isLapsed (d - 1) (by omega) x2 x4 t2 v4 ev4) ?_
    obtain ⟨hbz, h⟩ := rZ_some h
    obtain rfl := Option.some.inj h
    exact r_zreturn dX7_isSo_74 rfl hbz hQ (Nat.le_refl _) (Nat.le_refl _)
  rcases if_split h with ⟨q9, h⟩ | ⟨n1, h⟩
  · refine r_table (19 : Int32) 62 75 dX7_isSo_13 q9 (by decide) (by decide) rfl (by decide) ?_
    refine r_aload_n 2 dX7_isSo_75 rfl ?_
    refine q_getR (e9 := (1, 0)) dX7_isSo_76 fd_X7_140 t2 rfl h (fun r5 tr5 h => ?_)
    refine r_iload 4 dX7_isSo_79 rfl ?_
    refine q_iald dX7_isSo_81 tr5 h (fun v6 h => ?_)
    refine r_if_ne 89 dX7_isSo_82 (by decide) h (fun _ h => ?_) (fun _ h => ?_)
    · refine r_iconst (v := 0) dX7_isSo_89 (by decide) ?_
      refine r_pick [] rfl ?_
      exact tX7_isSo_b90 hdd σ (0 : Int32)  _ h hQ
    · refine r_iconst (v := 1) dX7_isSo_85 (by decide) ?_
      refine r_goto 90 dX7_isSo_86 (by decide) ?_
      refine r_pick [] rfl ?_
      exact tX7_isSo_b90 hdd σ (1 : Int32)  _ h hQ
  rcases if_split h with ⟨q9, h⟩ | ⟨n2, h⟩
  · refine r_table (20 : Int32) 78 91 dX7_isSo_13 q9 (by decide) (by decide) rfl (by decide) ?_
    refine r_aload_n 2 dX7_isSo_91 rfl ?_
    refine q_getR (e9 := (1, 0)) dX7_isSo_92 fd_X7_143 t2 rfl h (fun r7 tr7 h => ?_)
    refine r_iload 4 dX7_isSo_95 rfl ?_
    refine q_iald dX7_isSo_97 tr7 h (fun v8 h => ?_)
    refine r_iconst (v := 1) dX7_isSo_98 (by decide) ?_
    refine r_icmp_ne 106 dX7_isSo_99 (by decide) h (fun _ h => ?_) (fun _ h => ?_)
    · refine r_iconst (v := 0) dX7_isSo_106 (by decide) ?_
      refine r_pick [] rfl ?_
      exact tX7_isSo_b107 hdd σ (0 : Int32)  _ h hQ
    · refine r_iconst (v := 1) dX7_isSo_102 (by decide) ?_
      refine r_goto 107 dX7_isSo_103 (by decide) ?_
      refine r_pick [] rfl ?_
      exact tX7_isSo_b107 hdd σ (1 : Int32)  _ h hQ
  rcases if_split h with ⟨q9, h⟩ | ⟨n3, h⟩
  · refine r_table (21 : Int32) 95 108 dX7_isSo_13 q9 (by decide) (by decide) rfl (by decide) ?_
    refine r_aload_n 2 dX7_isSo_108 rfl ?_
    refine r_aload_n 3 dX7_isSo_109 rfl ?_
    refine q_getR (e9 := (1, 0)) dX7_isSo_110 fd_X7_146 t3 rfl h (fun r9 tr9 h => ?_)
    refine r_iload 4 dX7_isSo_113 rfl ?_
    refine q_iald dX7_isSo_115 tr9 h (fun v10 h => ?_)
    obtain ⟨v11, ev11, h⟩ := bd0_some h
    refine q_cVI [.int v10] dX7_isSo_116 cv_X7_149 (ci := 3) rfl rfl t2 rfl rfl (Nat.le_of_ble_eq_true rfl) (by omega) (kX3_isAwake (d - 1) (by omega) x2 v10 t2 v11 ev11) ?_
    refine r_if_eq 140 dX7_isSo_119 (by decide) h (fun _ h => ?_) (fun _ h => ?_)
    · refine r_pick [] rfl ?_
      exact tX7_isSo_b140 hdd σ  _ h hQ
    · refine r_aload_n 2 dX7_isSo_122 rfl ?_
      refine r_aload_n 3 dX7_isSo_123 rfl ?_
      refine q_getR (e9 := (1, 0)) dX7_isSo_124 fd_X7_152 t3 rfl h (fun r12 tr12 h => ?_)
      refine r_iload 4 dX7_isSo_127 rfl ?_
      refine q_iald dX7_isSo_129 tr12 h (fun v13 h => ?_)
      obtain ⟨v14, ev14, h⟩ := bd0_some h
      refine q_cVI [.int v13] dX7_isSo_130 cv_X7_149 (ci := 3) rfl rfl t2 rfl rfl (Nat.le_of_ble_eq_true rfl) (by omega) (kX3_isAwake (d - 1) (by omega) x2 v13 t2 v14 ev14) ?_
      refine r_if_eq 140 dX7_isSo_133 (by decide) h (fun _ h => ?_) (fun _ h => ?_)
      · refine r_pick [] rfl ?_
        exact tX7_isSo_b140 hdd σ  _ h hQ
      · refine r_iconst (v := 1) dX7_isSo_136 (by decide) ?_
        refine r_goto 141 dX7_isSo_137 (by decide) ?_
        refine r_pick [] rfl ?_
        exact tX7_isSo_b141 hdd σ (1 : Int32)  _ h hQ
  rcases if_split h with ⟨q9, h⟩ | ⟨n4, h⟩
  · refine r_table (22 : Int32) 129 142 dX7_isSo_13 q9 (by decide) (by decide) rfl (by decide) ?_
    refine r_aload_n 0 dX7_isSo_142 rfl ?_
    refine q_getR (e9 := (1, 0)) dX7_isSo_143 fd_X7_21 t0 rfl h (fun r15 tr15 h => ?_)
    refine r_iload_n 1 dX7_isSo_146 rfl ?_
    refine q_iald dX7_isSo_147 tr15 h (fun v16 h => ?_)
    refine r_aload_n 3 dX7_isSo_148 rfl ?_
    refine q_getR (e9 := (1, 0)) dX7_isSo_149 fd_X7_146 t3 rfl h (fun r17 tr17 h => ?_)
    refine r_iload 4 dX7_isSo_152 rfl ?_
    refine q_iald dX7_isSo_154 tr17 h (fun v18 h => ?_)
    refine r_icmp_eq 174 dX7_isSo_155 (by decide) h (fun _ h => ?_) (fun _ h => ?_)
    · refine r_pick [] rfl ?_
      exact tX7_isSo_b174 hdd σ  _ h hQ
    · refine r_aload_n 0 dX7_isSo_158 rfl ?_
      refine q_getR (e9 := (1, 0)) dX7_isSo_159 fd_X7_21 t0 rfl h (fun r19 tr19 h => ?_)
      refine r_iload_n 1 dX7_isSo_162 rfl ?_
      refine q_iald dX7_isSo_163 tr19 h (fun v20 h => ?_)
      refine r_aload_n 3 dX7_isSo_164 rfl ?_
      refine q_getR (e9 := (1, 0)) dX7_isSo_165 fd_X7_152 t3 rfl h (fun r21 tr21 h => ?_)
      refine r_iload 4 dX7_isSo_168 rfl ?_
      refine q_iald dX7_isSo_170 tr21 h (fun v22 h => ?_)
      refine r_icmp_ne 178 dX7_isSo_171 (by decide) h (fun _ h => ?_) (fun _ h => ?_)
      · refine r_iconst (v := 0) dX7_isSo_178 (by decide) ?_
        refine r_pick [] rfl ?_
        exact tX7_isSo_b179 hdd σ (0 : Int32)  _ h hQ
      · refine r_pick [] rfl ?_
        exact tX7_isSo_b174 hdd σ  _ h hQ
  rcases if_split h with ⟨q9, h⟩ | ⟨n5, h⟩
  · refine r_table (23 : Int32) 206 219 dX7_isSo_13 q9 (by decide) (by decide) rfl (by decide) ?_
    refine r_aload_n 0 dX7_isSo_219 rfl ?_
    refine r_iload 4 dX7_isSo_220 rfl ?_
    refine r_iload_n 1 dX7_isSo_222 rfl ?_
    obtain ⟨v23, ev23, h⟩ := bd0_some h
    refine q_cVI [.int x4, .int x1] dX7_isSo_223 cv_X7_155 (ci := 7) rfl rfl t0 rfl rfl (Nat.le_of_ble_eq_true rfl) (by omega) (kX7_compares (d - 1) (by omega) x0 x4 x1 t0 v23 ev23) ?_
    obtain ⟨hbz, h⟩ := rZ_some h
    obtain rfl := Option.some.inj h
    exact r_zreturn dX7_isSo_226 rfl hbz hQ (Nat.le_refl _) (Nat.le_refl _)
  rcases if_split h with ⟨q9, h⟩ | ⟨n6, h⟩
  · refine r_table (24 : Int32) 206 219 dX7_isSo_13 q9 (by decide) (by decide) rfl (by decide) ?_
    refine r_aload_n 0 dX7_isSo_219 rfl ?_
    refine r_iload 4 dX7_isSo_220 rfl ?_
    refine r_iload_n 1 dX7_isSo_222 rfl ?_
    obtain ⟨v24, ev24, h⟩ := bd0_some h
    refine q_cVI [.int x4, .int x1] dX7_isSo_223 cv_X7_155 (ci := 7) rfl rfl t0 rfl rfl (Nat.le_of_ble_eq_true rfl) (by omega) (kX7_compares (d - 1) (by omega) x0 x4 x1 t0 v24 ev24) ?_
    obtain ⟨hbz, h⟩ := rZ_some h
    obtain rfl := Option.some.inj h
    exact r_zreturn dX7_isSo_226 rfl hbz hQ (Nat.le_refl _) (Nat.le_refl _)
  rcases if_split h with ⟨q9, h⟩ | ⟨n7, h⟩
  · refine r_table (25 : Int32) 167 180 dX7_isSo_13 q9 (by decide) (by decide) rfl (by decide) ?_
    refine r_aload_n 0 dX7_isSo_180 rfl ?_
    refine r_aload_n 2 dX7_isSo_181 rfl ?_
    refine q_getR (e9 := (1, 0)) dX7_isSo_182 fd_X7_140 t2 rfl h (fun r25 tr25 h => ?_)
    refine r_iload 4 dX7_isSo_185 rfl ?_
    refine q_iald dX7_isSo_187 tr25 h (fun v26 h => ?_)
    refine r_iload_n 1 dX7_isSo_188 rfl ?_
    obtain ⟨v27, ev27, h⟩ := bd0_some h
    refine q_cVI [.int v26, .int x1] dX7_isSo_189 cv_X7_155 (ci := 7) rfl rfl t0 rfl rfl (Nat.le_of_ble_eq_true rfl) (by omega) (kX7_compares (d - 1) (by omega) x0 v26 x1 t0 v27 ev27) ?_
    obtain ⟨hbz, h⟩ := rZ_some h
    obtain rfl := Option.some.inj h
    exact r_zreturn dX7_isSo_192 rfl hbz hQ (Nat.le_refl _) (Nat.le_refl _)
  rcases if_split h with ⟨q9, h⟩ | ⟨n8, h⟩
  · refine r_table (26 : Int32) 180 193 dX7_isSo_13 q9 (by decide) (by decide) rfl (by decide) ?_
    refine r_aload_n 0 dX7_isSo_193 rfl ?_
    refine r_aload_n 2 dX7_isSo_194 rfl ?_
    refine q_getR (e9 := (1, 0)) dX7_isSo_195 fd_X7_159 t2 rfl h (fun r28 tr28 h => ?_)
    refine r_iload 4 dX7_isSo_198 rfl ?_
    refine q_iald dX7_isSo_200 tr28 h (fun v29 h => ?_)
    refine r_iload_n 1 dX7_isSo_201 rfl ?_
    obtain ⟨v30, ev30, h⟩ := bd0_some h
    refine q_cVI [.int v29, .int x1] dX7_isSo_202 cv_X7_155 (ci := 7) rfl rfl t0 rfl rfl (Nat.le_of_ble_eq_true rfl) (by omega) (kX7_compares (d - 1) (by omega) x0 v29 x1 t0 v30 ev30) ?_
    obtain ⟨hbz, h⟩ := rZ_some h
    obtain rfl := Option.some.inj h
    exact r_zreturn dX7_isSo_205 rfl hbz hQ (Nat.le_refl _) (Nat.le_refl _)
  rcases if_split h with ⟨q9, h⟩ | ⟨n9, h⟩
  · refine r_table (27 : Int32) 193 206 dX7_isSo_13 q9 (by decide) (by decide) rfl (by decide) ?_
    refine r_aload_n 0 dX7_isSo_206 rfl ?_
    refine r_aload_n 2 dX7_isSo_207 rfl ?_
    refine q_getR (e9 := (1, 0)) dX7_isSo_208 fd_X7_162 t2 rfl h (fun r31 tr31 h => ?_)
    refine r_iload 4 dX7_isSo_211 rfl ?_
    refine q_iald dX7_isSo_213 tr31 h (fun v32 h => ?_)
    refine r_iload_n 1 dX7_isSo_214 rfl ?_
    obtain ⟨v33, ev33, h⟩ := bd0_some h
    refine q_cVI [.int v32, .int x1] dX7_isSo_215 cv_X7_155 (ci := 7) rfl rfl t0 rfl rfl (Nat.le_of_ble_eq_true rfl) (by omega) (kX7_compares (d - 1) (by omega) x0 v32 x1 t0 v33 ev33) ?_
    obtain ⟨hbz, h⟩ := rZ_some h
    obtain rfl := Option.some.inj h
    exact r_zreturn dX7_isSo_218 rfl hbz hQ (Nat.le_refl _) (Nat.le_refl _)
  have n0 := ne_int n0 (z := 18) rfl
  have n1 := ne_int n1 (z := 19) rfl
  have n2 := ne_int n2 (z := 20) rfl
  have n3 := ne_int n3 (z := 21) rfl
  have n4 := ne_int n4 (z := 22) rfl
  have n5 := ne_int n5 (z := 23) rfl
  have n6 := ne_int n6 (z := 24) rfl
  have n7 := ne_int n7 (z := 25) rfl
  have n8 := ne_int n8 (z := 26) rfl
  have n9 := ne_int n9 (z := 27) rfl
  refine r_tableD 219 dX7_isSo_13 (by omega) (by decide) ?_
  refine r_aload_n 0 dX7_isSo_219 rfl ?_
  refine r_iload 4 dX7_isSo_220 rfl ?_
  refine r_iload_n 1 dX7_isSo_222 rfl ?_
  obtain ⟨v34, ev34, h⟩ := bd0_some h
  refine q_cVI [.int x4, .int x1] dX7_isSo_223 cv_X7_155 (ci := 7) rfl rfl t0 rfl rfl (Nat.le_of_ble_eq_true rfl) (by omega) (kX7_compares (d - 1) (by omega) x0 x4 x1 t0 v34 ev34) ?_
  obtain ⟨hbz, h⟩ := rZ_some h
  obtain rfl := Option.some.inj h
  exact r_zreturn dX7_isSo_226 rfl hbz hQ (Nat.le_refl _) (Nat.le_refl _)
theorem tX7_holds_b128 {l : Launch} {G : gg} {Γ : ly} {d : Nat} {Q : Option Value → ly → mm → Prop} (hdd : 3 ≤ d) (σ : mm) (x0 : Nat) (x1 : Nat) (x2 : Nat) (x3 : Int32) (x4 : Int32) (x5 : Int32)  (t0 : tyOK Γ (0, 7) x0) (t1 : tyOK Γ (0, 3) x1) (t2 : tyOK Γ (0, 4) x2)  (r : ((Int32 × Int32) ⊕ Int32)) (h : fX7_holds_b128 Γ.2 σ x0 x1 x2 x3 x4 x5 = some r) (hb : ∀ (x4 : Int32) (x5 : Int32), r = .inl (x4, x5) → WP l G yX7_holds cX7_holds 7 (some .boolean) d 0 0 Q 0 0 6 [(0, .ref (G.2.1 x0)), (1, .ref (G.2.1 x1)), (2, .ref (G.2.1 x2)), (3, .int x3), (4, .int x4), (5, .int x5)] [] Γ σ) (hx0 : ∀ (x4 : Int32), r = .inr x4 → WP l G yX7_holds cX7_holds 7 (some .boolean) d 0 0 Q 0 0 134 [(4, .int x4)] [] Γ σ) : WP l G yX7_holds cX7_holds 7 (some .boolean) d 0 0 Q 0 0 128 [(0, .ref (G.2.1 x0)), (1, .ref (G.2.1 x1)), (2, .ref (G.2.1 x2)), (3, .int x3), (4, .int x4), (5, .int x5)] [] Γ σ := by
  unfold fX7_holds_b128 at h
  refine q_iinc (v := 1) 5 (fun v1 => [(5, .int v1), (0, .ref (G.2.1 x0)), (1, .ref (G.2.1 x1)), (2, .ref (G.2.1 x2)), (3, .int x3), (4, .int x4)]) dX7_holds_128 rfl (by decide) (by decide) (fun _ => rfl) h (fun v1 h => ?_)
  refine r_goto 6 dX7_holds_131 (by decide) ?_
  obtain rfl := Option.some.inj h
  refine r_pick [1, 2, 3, 4, 5, 0] rfl ?_
  exact hb _ _ rfl
theorem tX7_holds_b125 {l : Launch} {G : gg} {Γ : ly} {d : Nat} {Q : Option Value → ly → mm → Prop} (hdd : 3 ≤ d) (σ : mm) (x0 : Nat) (x1 : Nat) (x2 : Nat) (x3 : Int32) (x5 : Int32) (s0 : Int32) (s1 : Int32) (t0 : tyOK Γ (0, 7) x0) (t1 : tyOK Γ (0, 3) x1) (t2 : tyOK Γ (0, 4) x2)  (r : ((Int32 × Int32) ⊕ Int32)) (h : fX7_holds_b125 Γ.2 σ x0 x1 x2 x3 x5 s0 s1 = some r) (hb : ∀ (x4 : Int32) (x5 : Int32), r = .inl (x4, x5) → WP l G yX7_holds cX7_holds 7 (some .boolean) d 0 0 Q 0 0 6 [(0, .ref (G.2.1 x0)), (1, .ref (G.2.1 x1)), (2, .ref (G.2.1 x2)), (3, .int x3), (4, .int x4), (5, .int x5)] [] Γ σ) (hx0 : ∀ (x4 : Int32), r = .inr x4 → WP l G yX7_holds cX7_holds 7 (some .boolean) d 0 0 Q 0 0 134 [(4, .int x4)] [] Γ σ) : WP l G yX7_holds cX7_holds 7 (some .boolean) d 0 0 Q 0 0 125 [(0, .ref (G.2.1 x0)), (1, .ref (G.2.1 x1)), (2, .ref (G.2.1 x2)), (3, .int x3), (5, .int x5)] [.int s1, .int s0] Γ σ := by
  unfold fX7_holds_b125 at h
  refine r_ior dX7_holds_125 ?_
  refine q_nmI h (fun v1 h => ?_)
  refine r_istore (lv' := [(4, .int v1), (0, .ref (G.2.1 x0)), (1, .ref (G.2.1 x1)), (2, .ref (G.2.1 x2)), (3, .int x3), (5, .int x5)]) dX7_holds_126 (by decide) rfl ?_
  refine r_pick [1, 2, 3, 4, 0, 5] rfl ?_
  exact tX7_holds_b128 hdd σ x0 x1 x2 x3 v1 x5 t0 t1 t2 _ h hb hx0
theorem sX7_holds_L6 {l : Launch} {G : gg} {Γ : ly} {d : Nat} {Q : Option Value → ly → mm → Prop} (hdd : 3 ≤ d) (σ : mm) (x0 : Nat) (x1 : Nat) (x2 : Nat) (x3 : Int32) (t0 : tyOK Γ (0, 7) x0) (t1 : tyOK Γ (0, 3) x1) (t2 : tyOK Γ (0, 4) x2) {K : Int32 → Prop} (kx0 : ∀ (x4 : Int32), K x4 → WP l G yX7_holds cX7_holds 7 (some .boolean) d 0 0 Q 0 0 134 [(4, .int x4)] [] Γ σ) : ∀ (N : Nat) (s : (Int32 × Int32)) (b : Int32), loopN (fX7_holds_L6 Γ.2 σ x0 x1 x2 x3) N s = some b → K b → WP l G yX7_holds cX7_holds 7 (some .boolean) d 0 0 Q 0 0 6 [(0, .ref (G.2.1 x0)), (1, .ref (G.2.1 x1)), (2, .ref (G.2.1 x2)), (3, .int x3), (4, .int s.1), (5, .int s.2)] [] Γ σ := by
  refine r_loop (f := fX7_holds_L6 Γ.2 σ x0 x1 x2 x3) (hlv := fun s => [(0, .ref (G.2.1 x0)), (1, .ref (G.2.1 x1)), (2, .ref (G.2.1 x2)), (3, .int x3), (4, .int s.1), (5, .int s.2)]) (hsg := fun s => σ) ?_
  rintro ⟨x4, x5⟩ r h hb hx
  have hb : ∀ (x4 : Int32) (x5 : Int32), r = .inl (x4, x5) → WP l G yX7_holds cX7_holds 7 (some .boolean) d 0 0 Q 0 0 6 [(0, .ref (G.2.1 x0)), (1, .ref (G.2.1 x1)), (2, .ref (G.2.1 x2)), (3, .int x3), (4, .int x4), (5, .int x5)] [] Γ σ := fun x4 x5 e => hb (x4, x5) e
  have hx0 : ∀ (x4 : Int32), r = .inr x4 → WP l G yX7_holds cX7_holds 7 (some .boolean) d 0 0 Q 0 0 134 [(4, .int x4)] [] Γ σ := fun x4 e => kx0 x4 (hx _ e)
  unfold fX7_holds_L6 at h
  have h := un2_some h
  show WP l G yX7_holds cX7_holds 7 (some .boolean) d 0 0 Q 0 0 6 [(0, .ref (G.2.1 x0)), (1, .ref (G.2.1 x1)), (2, .ref (G.2.1 x2)), (3, .int x3), (4, .int x4), (5, .int x5)] [] Γ σ
  refine r_iload 5 dX7_holds_6 rfl ?_
  refine r_aload_n 0 dX7_holds_8 rfl ?_
  refine r_getI dX7_holds_9 fd_X7_32 t0 ?_
  refine r_icmp_ge 134 dX7_holds_12 (by decide) h (fun _ h => ?_) (fun _ h => ?_)
  · obtain rfl := Option.some.inj h
    refine r_pick [4] rfl ?_
    exact hx0 _ rfl
  · refine r_iload 4 dX7_holds_15 rfl ?_
    refine r_iconst (v := 1) dX7_holds_17 (by decide) ?_
    refine r_iand dX7_holds_18 ?_
    refine q_nmI h (fun v1 h => ?_)
    refine r_istore (lv' := [(6, .int v1), (0, .ref (G.2.1 x0)), (1, .ref (G.2.1 x1)), (2, .ref (G.2.1 x2)), (3, .int x3), (4, .int x4), (5, .int x5)]) dX7_holds_19 (by decide) rfl ?_
    refine r_swm dX7_holds_21 fw_X7_88 ?_
    refine r_aload_n 1 dX7_holds_24 rfl ?_
    refine q_getR (e9 := (8, 0)) dX7_holds_25 fd_X7_13 t0 rfl h (fun r2 tr2 h => ?_)
    refine r_iload 6 dX7_holds_28 rfl ?_
    refine q_aald8 dX7_holds_30 tr2 h (fun r3 tr3 h => ?_)
    refine q_cord dX7_holds_31 cu_X7_93 rfl rfl tr3 (Nat.le_of_ble_eq_true rfl) (by omega) (k_ordinal (d - 1) r3 tr3) ?_
    refine q_swmld dX7_holds_34 h (fun v4 h => ?_)
    rcases if_split h with ⟨q9, h⟩ | ⟨n0, h⟩
    · refine r_lookup 33 68 dX7_holds_35 (by decide) (by rw [q9]; decide) (by decide) ?_
      refine r_iload 5 dX7_holds_68 rfl ?_
      refine r_iconst (v := 1) dX7_holds_70 (by decide) ?_
      refine r_ixor dX7_holds_71 ?_
      refine q_nmI h (fun v5 h => ?_)
      refine r_istore (lv' := [(4, .int v5), (6, .int v1), (0, .ref (G.2.1 x0)), (1, .ref (G.2.1 x1)), (2, .ref (G.2.1 x2)), (3, .int x3), (5, .int x5)]) dX7_holds_72 (by decide) rfl ?_
      refine r_goto 128 dX7_holds_74 (by decide) ?_
      refine r_pick [2, 3, 4, 5, 0, 6] rfl ?_
      exact tX7_holds_b128 hdd σ x0 x1 x2 x3 v5 x5 t0 t1 t2 _ h hb hx0
    rcases if_split h with ⟨q9, h⟩ | ⟨n1, h⟩
    · refine r_lookup 42 77 dX7_holds_35 (by decide) (by rw [q9]; decide) (by decide) ?_
      refine r_iload 5 dX7_holds_77 rfl ?_
      refine r_iconst (v := 1) dX7_holds_79 (by decide) ?_
      refine r_ishr dX7_holds_80 ?_
      refine r_iload 0 dX7_holds_81 rfl ?_
      refine r_bipush (v := -2) dX7_holds_83 (by decide) ?_
      refine r_ior dX7_holds_85 ?_
      refine r_iand dX7_holds_86 ?_
      refine q_nmI h (fun v6 h => ?_)
      refine r_istore (lv' := [(4, .int v6), (6, .int v1), (0, .ref (G.2.1 x0)), (1, .ref (G.2.1 x1)), (2, .ref (G.2.1 x2)), (3, .int x3), (5, .int x5)]) dX7_holds_87 (by decide) rfl ?_
      refine r_goto 128 dX7_holds_89 (by decide) ?_
      refine r_pick [2, 3, 4, 5, 0, 6] rfl ?_
      exact tX7_holds_b128 hdd σ x0 x1 x2 x3 v6 x5 t0 t1 t2 _ h hb hx0
    rcases if_split h with ⟨q9, h⟩ | ⟨n2, h⟩
    · refine r_lookup 57 92 dX7_holds_35 (by decide) (by rw [q9]; decide) (by decide) ?_
      refine r_iload 5 dX7_holds_92 rfl ?_
      refine r_iconst (v := 1) dX7_holds_94 (by decide) ?_
      refine r_ishr dX7_holds_95 ?_
      refine r_iload 0 dX7_holds_96 rfl ?_
      refine r_ior dX7_holds_98 ?_
      refine q_nmI h (fun v7 h => ?_)
      refine r_istore (lv' := [(4, .int v7), (6, .int v1), (0, .ref (G.2.1 x0)), (1, .ref (G.2.1 x1)), (2, .ref (G.2.1 x2)), (3, .int x3), (5, .int x5)]) dX7_holds_99 (by decide) rfl ?_
      refine r_goto 128 dX7_holds_101 (by decide) ?_
      refine r_pick [2, 3, 4, 5, 0, 6] rfl ?_
      exact tX7_holds_b128 hdd σ x0 x1 x2 x3 v7 x5 t0 t1 t2 _ h hb hx0
    have n0 := ne_int n0 (z := 17) rfl
    have n1 := ne_int n1 (z := 23) rfl
    have n2 := ne_int n2 (z := 24) rfl
    refine r_lookup (69) 104 dX7_holds_35 (by decide) (by simp [Op.lookupswitch.offset, n0, Ne.symm n0, n1, Ne.symm n1, n2, Ne.symm n2]) (by decide) ?_
    refine r_iload 5 dX7_holds_104 rfl ?_
    refine r_iconst (v := 1) dX7_holds_106 (by decide) ?_
    refine r_ishl dX7_holds_107 ?_
    refine r_aload_n 1 dX7_holds_108 rfl ?_
    refine r_iload 6 dX7_holds_109 rfl ?_
    refine r_aload_n 2 dX7_holds_111 rfl ?_
    refine r_aload_n 3 dX7_holds_112 rfl ?_
    refine r_iload_n 4 dX7_holds_113 rfl ?_
    obtain ⟨v8, ev8, h⟩ := bd0_some h
    refine q_cVI [.int x5, .ref (G.2.1 x1), .ref (G.2.1 x2), .int x3] dX7_holds_114 cv_X7_131 (ci := 7) rfl rfl t0 rfl rfl (Nat.le_of_ble_eq_true rfl) (by omega) (kX7_isSo (d - 1) (by omega) x0 x5 x1 x2 x3 t0 t1 t2 v8 ev8) ?_
    refine r_if_eq 124 dX7_holds_117 (by decide) h (fun _ h => ?_) (fun _ h => ?_)
    · refine r_iconst (v := 0) dX7_holds_124 (by decide) ?_
      refine r_pick [1, 2, 3, 4, 6] rfl ?_
      exact tX7_holds_b125 hdd σ x0 x1 x2 x3 x5 (x4 <<< ((1 : Int32) &&& 31)) (0 : Int32) t0 t1 t2 _ h hb hx0
    · refine r_iconst (v := 1) dX7_holds_120 (by decide) ?_
      refine r_goto 125 dX7_holds_121 (by decide) ?_
      refine r_pick [1, 2, 3, 4, 6] rfl ?_
      exact tX7_holds_b125 hdd σ x0 x1 x2 x3 x5 (x4 <<< ((1 : Int32) &&& 31)) (1 : Int32) t0 t1 t2 _ h hb hx0
theorem tX7_holds_b147 {l : Launch} {G : gg} {Γ : ly} {d : Nat} {Q : Option Value → ly → mm → Prop} (hdd : 3 ≤ d) (σ : mm)  (s0 : Int32)   (r : Int32) (h : fX7_holds_b147 Γ.2 σ s0 = some r) (hQ : Q (some (.int r)) Γ σ) : WP l G yX7_holds cX7_holds 7 (some .boolean) d 0 0 Q 0 0 147 [] [.int s0] Γ σ := by
  unfold fX7_holds_b147 at h
  obtain ⟨hbz, h⟩ := rZ_some h
  obtain rfl := Option.some.inj h
  exact r_zreturn dX7_holds_147 rfl hbz hQ (Nat.le_refl _) (Nat.le_refl _)
theorem kX7_holds {l : Launch} {G : gg} {Γ : ly} {σ : mm} (d : Nat) (hdd : 3 ≤ d) (x0 : Nat) (x1 : Nat) (x2 : Nat) (x3 : Int32) (t0 : tyOK Γ (0, 7) x0) (t1 : tyOK Γ (0, 3) x1) (t2 : tyOK Γ (0, 4) x2) (r : Int32) (h : fX7_holds Γ.2 σ x0 x1 x2 x3 = some r) : CT l G yX7_holds cX7_holds 7 (some .boolean) d 0 0 [.ref (G.2.1 x0), .ref (G.2.1 x1), .ref (G.2.1 x2), .int x3] Γ σ (PP (some (.int r)) Γ σ) := by
  refine CT.ofWP (by decide) (Nat.le_of_ble_eq_true rfl) ?_
  have hQ : PP (some (.int r)) Γ σ (some (.int r)) Γ σ := PP.self
  generalize PP (some (.int r)) Γ σ = Q at hQ ⊢
  show WP l G yX7_holds cX7_holds 7 (some .boolean) d 0 0 Q 0 0 0 [(0, .ref (G.2.1 x0)), (1, .ref (G.2.1 x1)), (2, .ref (G.2.1 x2)), (3, .int x3)] [] Γ σ
  unfold fX7_holds at h
  refine r_iconst (v := 0) dX7_holds_0 (by decide) ?_
  refine r_istore (lv' := [(4, .int (0 : Int32)), (0, .ref (G.2.1 x0)), (1, .ref (G.2.1 x1)), (2, .ref (G.2.1 x2)), (3, .int x3)]) dX7_holds_1 (by decide) rfl ?_
  refine r_iconst (v := 0) dX7_holds_3 (by decide) ?_
  refine r_istore (lv' := [(5, .int (0 : Int32)), (4, .int (0 : Int32)), (0, .ref (G.2.1 x0)), (1, .ref (G.2.1 x1)), (2, .ref (G.2.1 x2)), (3, .int x3)]) dX7_holds_4 (by decide) rfl ?_
  obtain ⟨b1, eb1, h⟩ := bd0_some h
  refine r_pick [2, 3, 4, 5, 1, 0] rfl ?_
  refine sX7_holds_L6 hdd σ x0 x1 x2 x3 t0 t1 t2 (K := fun b => b = b1) ?_ 1000 ((0 : Int32), (0 : Int32)) b1 eb1 rfl
  rintro v2 rfl
  refine r_iload 0 dX7_holds_134 rfl ?_
  refine r_iconst (v := 1) dX7_holds_136 (by decide) ?_
  refine r_iand dX7_holds_137 ?_
  refine r_iconst (v := 1) dX7_holds_138 (by decide) ?_
  refine r_icmp_ne 146 dX7_holds_139 (by decide) h (fun _ h => ?_) (fun _ h => ?_)
  · refine r_iconst (v := 0) dX7_holds_146 (by decide) ?_
    refine r_pick [] rfl ?_
    exact tX7_holds_b147 hdd σ (0 : Int32)  _ h hQ
  · refine r_iconst (v := 1) dX7_holds_142 (by decide) ?_
    refine r_goto 147 dX7_holds_143 (by decide) ?_
    refine r_pick [] rfl ?_
    exact tX7_holds_b147 hdd σ (1 : Int32)  _ h hQ
theorem tX8_hasRoom_b18 {l : Launch} {G : gg} {Γ : ly} {d : Nat} {Q : Option Value → ly → mm → Prop} (hdd : 0 ≤ d) (σ : mm)  (s0 : Int32)   (r : Int32) (h : fX8_hasRoom_b18 Γ.2 σ s0 = some r) (hQ : Q (some (.int r)) Γ σ) : WP l G yX8_hasRoom cX8_hasRoom 1 (some .boolean) d 0 0 Q 0 0 18 [] [.int s0] Γ σ := by
  unfold fX8_hasRoom_b18 at h
  obtain ⟨hbz, h⟩ := rZ_some h
  obtain rfl := Option.some.inj h
  exact r_zreturn dX8_hasRoom_18 rfl hbz hQ (Nat.le_refl _) (Nat.le_refl _)
theorem kX8_hasRoom {l : Launch} {G : gg} {Γ : ly} {σ : mm} (d : Nat) (hdd : 0 ≤ d) (x0 : Nat) (t0 : tyOK Γ (0, 8) x0) (r : Int32) (h : fX8_hasRoom Γ.2 σ x0 = some r) : CT l G yX8_hasRoom cX8_hasRoom 1 (some .boolean) d 0 0 [.ref (G.2.1 x0)] Γ σ (PP (some (.int r)) Γ σ) := by
  refine CT.ofWP (by decide) (Nat.le_of_ble_eq_true rfl) ?_
  have hQ : PP (some (.int r)) Γ σ (some (.int r)) Γ σ := PP.self
  generalize PP (some (.int r)) Γ σ = Q at hQ ⊢
  show WP l G yX8_hasRoom cX8_hasRoom 1 (some .boolean) d 0 0 Q 0 0 0 [(0, .ref (G.2.1 x0))] [] Γ σ
  unfold fX8_hasRoom at h
  refine r_aload_n 0 dX8_hasRoom_0 rfl ?_
  refine r_getI dX8_hasRoom_1 fd_X8_22 t0 ?_
  refine r_bipush (v := 20) dX8_hasRoom_4 (by decide) ?_
  refine r_iadd dX8_hasRoom_6 ?_
  refine r_sipush (v := 940) dX8_hasRoom_7 (by decide) ?_
  refine r_icmp_gt 17 dX8_hasRoom_10 (by decide) h (fun _ h => ?_) (fun _ h => ?_)
  · refine r_iconst (v := 0) dX8_hasRoom_17 (by decide) ?_
    refine r_pick [] rfl ?_
    exact tX8_hasRoom_b18 hdd σ (0 : Int32)  _ h hQ
  · refine r_iconst (v := 1) dX8_hasRoom_13 (by decide) ?_
    refine r_goto 18 dX8_hasRoom_14 (by decide) ?_
    refine r_pick [] rfl ?_
    exact tX8_hasRoom_b18 hdd σ (1 : Int32)  _ h hQ
