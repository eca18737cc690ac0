/-! the walks, 8 -/
theorem tX13_waking_b29 {l : Launch} {G : gg} {Γ : ly} {d : Nat} {Q : Option Value → ly → mm → Prop} (hdd : 1 ≤ d) (σ : mm)  (s0 : Int32)   (r : (Int32 × mm)) (h : fX13_waking_b29 Γ.2 σ s0 = some r) (hQ : Q (some (.int r.1)) Γ r.2) : WP l G yX13_waking cX13_waking 2 (some .int) d 0 0 Q 0 0 29 [] [.int s0] Γ σ := by
  unfold fX13_waking_b29 at h
  obtain rfl := Option.some.inj h
  exact r_ireturn dX13_waking_29 rfl hQ (Nat.le_refl _) (Nat.le_refl _)
theorem kX13_waking {l : Launch} {G : gg} {Γ : ly} {σ : mm} (d : Nat) (hdd : 1 ≤ d) (x0 : Nat) (x1 : Int32) (t0 : tyOK Γ (0, 12) x0) (r : (Int32 × mm)) (h : fX13_waking Γ.2 σ x0 x1 = some r) : CT l G yX13_waking cX13_waking 2 (some .int) d 0 0 [.ref (G.2.1 x0), .int x1] Γ σ (PP (some (.int r.1)) Γ r.2) := by
  refine CT.ofWP (by decide) (Nat.le_of_ble_eq_true rfl) ?_
  have hQ : PP (some (.int r.1)) Γ r.2 (some (.int r.1)) Γ r.2 := PP.self
  generalize PP (some (.int r.1)) Γ r.2 = Q at hQ ⊢
  show WP l G yX13_waking cX13_waking 2 (some .int) d 0 0 Q 0 0 0 [(0, .ref (G.2.1 x0)), (1, .int x1)] [] Γ σ
  unfold fX13_waking at h
  refine r_aload_n 0 dX13_waking_0 rfl ?_
  refine r_iconst (v := 0) dX13_waking_1 (by decide) ?_
  refine q_putI dX13_waking_2 fd_X13_1 t0 h (fun τ1 h => ?_)
  refine r_iload_n 1 dX13_waking_5 rfl ?_
  refine r_iconst (v := 0) dX13_waking_6 (by decide) ?_
  refine r_aload_n 0 dX13_waking_7 rfl ?_
  refine r_getI dX13_waking_8 fd_X13_343 t0 ?_
  refine r_iconst (v := 1) dX13_waking_11 (by decide) ?_
  refine r_isub dX13_waking_12 ?_
  obtain ⟨v2, ev2, h⟩ := bd0_some h
  refine q_cSI [.int x1, .int (0 : Int32), .int ((τ1.1 x0 28) - (1 : Int32))] dX13_waking_13 cs_X13_75 rfl rfl (Nat.le_of_ble_eq_true rfl) (by omega) (kX13_isIn (d - 1) (by omega) x1 (0 : Int32) ((τ1.1 x0 28) - (1 : Int32))  v2 ev2) ?_
  refine r_if_eq 28 dX13_waking_16 (by decide) h (fun _ h => ?_) (fun _ h => ?_)
  · refine r_iconst (v := -1) dX13_waking_28 (by decide) ?_
    refine r_pick [] rfl ?_
    exact tX13_waking_b29 hdd τ1 (-1 : Int32)  _ h hQ
  · refine r_aload_n 0 dX13_waking_19 rfl ?_
    refine q_getR (e9 := (1, 0)) dX13_waking_20 fd_X13_133 t0 rfl h (fun r3 tr3 h => ?_)
    refine r_iload_n 1 dX13_waking_23 rfl ?_
    refine q_iald dX13_waking_24 tr3 h (fun v4 h => ?_)
    refine r_goto 29 dX13_waking_25 (by decide) ?_
    refine r_pick [] rfl ?_
    exact tX13_waking_b29 hdd τ1 v4  _ h hQ
theorem tX13_isChosen_b51 {l : Launch} {G : gg} {Γ : ly} {d : Nat} {Q : Option Value → ly → mm → Prop} (hdd : 4 ≤ d) (σ : mm)  (s0 : Int32)   (r : Int32) (h : fX13_isChosen_b51 Γ.2 σ s0 = some r) (hQ : Q (some (.int r)) Γ σ) : WP l G yX13_isChosen cX13_isChosen 4 (some .boolean) d 0 0 Q 0 0 51 [] [.int s0] Γ σ := by
  unfold fX13_isChosen_b51 at h
  obtain ⟨hbz, h⟩ := rZ_some h
  obtain rfl := Option.some.inj h
  exact r_zreturn dX13_isChosen_51 rfl hbz hQ (Nat.le_refl _) (Nat.le_refl _)
theorem tX13_isChosen_b50 {l : Launch} {G : gg} {Γ : ly} {d : Nat} {Q : Option Value → ly → mm → Prop} (hdd : 4 ≤ d) (σ : mm)     (r : Int32) (h : fX13_isChosen_b50 Γ.2 σ  = some r) (hQ : Q (some (.int r)) Γ σ) : WP l G yX13_isChosen cX13_isChosen 4 (some .boolean) d 0 0 Q 0 0 50 [] [] Γ σ := by
  unfold fX13_isChosen_b50 at h
  refine r_iconst (v := 0) dX13_isChosen_50 (by decide) ?_
  exact tX13_isChosen_b51 hdd σ (0 : Int32)  _ h hQ
theorem kX13_isChosen {l : Launch} {G : gg} {Γ : ly} {σ : mm} (d : Nat) (hdd : 4 ≤ d) (x0 : Nat) (x1 : Int32) (x2 : Int32) (t0 : tyOK Γ (0, 12) x0) (r : Int32) (h : fX13_isChosen Γ.2 σ x0 x1 x2 = some r) : CT l G yX13_isChosen cX13_isChosen 4 (some .boolean) d 0 0 [.ref (G.2.1 x0), .int x1, .int x2] Γ σ (PP (some (.int r)) Γ σ) := by
  refine CT.ofWP (by decide) (Nat.le_of_ble_eq_true rfl) ?_
  have hQ : PP (some (.int r)) Γ σ (some (.int r)) Γ σ := PP.self
  generalize PP (some (.int r)) Γ σ = Q at hQ ⊢
  show WP l G yX13_isChosen cX13_isChosen 4 (some .boolean) d 0 0 Q 0 0 0 [(0, .ref (G.2.1 x0)), (1, .int x1), (2, .int x2)] [] Γ σ
  unfold fX13_isChosen at h
  refine r_aload_n 0 dX13_isChosen_0 rfl ?_
  refine r_iload_n 1 dX13_isChosen_1 rfl ?_
  refine r_iload_n 2 dX13_isChosen_2 rfl ?_
  obtain ⟨v1, ev1, h⟩ := bd0_some h
  refine q_cVI [.int x1, .int x2] dX13_isChosen_3 cv_X13_312 (ci := 12) rfl rfl t0 rfl rfl (Nat.le_of_ble_eq_true rfl) (by omega) (kX13_endsBy (d - 1) (by omega) x0 x1 x2 t0 v1 ev1) ?_
  refine r_istore_n (lv' := [(3, .int v1), (0, .ref (G.2.1 x0)), (1, .int x1), (2, .int x2)]) dX13_isChosen_6 (by decide) rfl ?_
  refine r_iload_n 0 dX13_isChosen_7 rfl ?_
  refine r_iconst (v := -1) dX13_isChosen_8 (by decide) ?_
  refine r_icmp_eq 50 dX13_isChosen_9 (by decide) h (fun _ h => ?_) (fun _ h => ?_)
  · refine r_pick [] rfl ?_
    exact tX13_isChosen_b50 hdd σ  _ h hQ
  · refine r_aload_n 1 dX13_isChosen_12 rfl ?_
    refine r_aload_n 1 dX13_isChosen_13 rfl ?_
    refine q_getR (e9 := (1, 0)) dX13_isChosen_14 fd_X13_98 t0 rfl h (fun r2 tr2 h => ?_)
    refine r_bipush (v := 56) dX13_isChosen_17 (by decide) ?_
    refine r_iload_n 2 dX13_isChosen_19 rfl ?_
    refine r_iadd dX13_isChosen_20 ?_
    refine q_iald dX13_isChosen_21 tr2 h (fun v3 h => ?_)
    refine r_iload_n 0 dX13_isChosen_22 rfl ?_
    obtain ⟨v4, ev4, h⟩ := bd0_some h
    refine q_cVI [.int v3, .int v1] dX13_isChosen_23 cv_X13_255 (ci := 12) rfl rfl t0 rfl rfl (Nat.le_of_ble_eq_true rfl) (by omega) (kX13_isWilling (d - 1) (by omega) x0 v3 v1 t0 v4 ev4) ?_
    refine r_if_eq 50 dX13_isChosen_26 (by decide) h (fun _ h => ?_) (fun _ h => ?_)
    · refine r_pick [] rfl ?_
      exact tX13_isChosen_b50 hdd σ  _ h hQ
    · refine r_aload_n 1 dX13_isChosen_29 rfl ?_
      refine r_aload_n 1 dX13_isChosen_30 rfl ?_
      refine q_getR (e9 := (1, 0)) dX13_isChosen_31 fd_X13_98 t0 rfl h (fun r5 tr5 h => ?_)
      refine r_bipush (v := 60) dX13_isChosen_34 (by decide) ?_
      refine r_iload_n 2 dX13_isChosen_36 rfl ?_
      refine r_iadd dX13_isChosen_37 ?_
      refine q_iald dX13_isChosen_38 tr5 h (fun v6 h => ?_)
      refine r_iload_n 0 dX13_isChosen_39 rfl ?_
      obtain ⟨v7, ev7, h⟩ := bd0_some h
      refine q_cVI [.int v6, .int v1] dX13_isChosen_40 cv_X13_255 (ci := 12) rfl rfl t0 rfl rfl (Nat.le_of_ble_eq_true rfl) (by omega) (kX13_isWilling (d - 1) (by omega) x0 v6 v1 t0 v7 ev7) ?_
      refine r_if_eq 50 dX13_isChosen_43 (by decide) h (fun _ h => ?_) (fun _ h => ?_)
      · refine r_pick [] rfl ?_
        exact tX13_isChosen_b50 hdd σ  _ h hQ
      · refine r_iconst (v := 1) dX13_isChosen_46 (by decide) ?_
        refine r_goto 51 dX13_isChosen_47 (by decide) ?_
        refine r_pick [] rfl ?_
        exact tX13_isChosen_b51 hdd σ (1 : Int32)  _ h hQ
theorem tX13_chosen_b21 {l : Launch} {G : gg} {Γ : ly} {d : Nat} {Q : Option Value → ly → mm → Prop} (hdd : 5 ≤ d) (σ : mm)     (r : (Int32 × mm)) (h : fX13_chosen_b21 Γ.2 σ  = some r) (hQ : Q (some (.int r.1)) Γ r.2) : WP l G yX13_chosen cX13_chosen 3 (some .int) d 0 0 Q 0 0 21 [] [] Γ σ := by
  unfold fX13_chosen_b21 at h
  refine r_iconst (v := -1) dX13_chosen_21 (by decide) ?_
  obtain rfl := Option.some.inj h
  exact r_ireturn dX13_chosen_22 rfl hQ (Nat.le_refl _) (Nat.le_refl _)
theorem sX13_chosen_L27 {l : Launch} {G : gg} {Γ : ly} {d : Nat} {Q : Option Value → ly → mm → Prop} (hdd : 5 ≤ d) (σ : mm) (x0 : Nat) (x1 : Int32) (t0 : tyOK Γ (0, 12) x0) {K : (Int32 ⊕ Unit) → Prop} (kx0 : ∀ (x2 : Int32), K (.inl x2) → WP l G yX13_chosen cX13_chosen 3 (some .int) d 0 0 Q 0 0 40 [(2, .int x2)] [] Γ σ) (kx1 : K (.inr ()) → WP l G yX13_chosen cX13_chosen 3 (some .int) d 0 0 Q 0 0 48 [] [] Γ σ) : ∀ (N : Nat) (s : Int32) (b : (Int32 ⊕ Unit)), loopN (fX13_chosen_L27 Γ.2 σ x0 x1) N s = some b → K b → WP l G yX13_chosen cX13_chosen 3 (some .int) d 0 0 Q 0 0 27 [(0, .ref (G.2.1 x0)), (1, .int x1), (2, .int s)] [] Γ σ := by
  refine r_loop (f := fX13_chosen_L27 Γ.2 σ x0 x1) (hlv := fun s => [(0, .ref (G.2.1 x0)), (1, .int x1), (2, .int s)]) (hsg := fun s => σ) ?_
  rintro x2 r h hb hx
  have hx0 : ∀ (x2 : Int32), r = .inr (.inl x2) → WP l G yX13_chosen cX13_chosen 3 (some .int) d 0 0 Q 0 0 40 [(2, .int x2)] [] Γ σ := fun x2 e => kx0 x2 (hx _ e)
  have hx1 : r = .inr (.inr ()) → WP l G yX13_chosen cX13_chosen 3 (some .int) d 0 0 Q 0 0 48 [] [] Γ σ := fun e => kx1  (hx _ e)
  unfold fX13_chosen_L27 at h
  show WP l G yX13_chosen cX13_chosen 3 (some .int) d 0 0 Q 0 0 27 [(0, .ref (G.2.1 x0)), (1, .int x1), (2, .int x2)] [] Γ σ
  refine r_iload_n 2 dX13_chosen_27 rfl ?_
  refine r_if_le 48 dX13_chosen_28 (by decide) h (fun _ h => ?_) (fun _ h => ?_)
  · obtain rfl := Option.some.inj h
    refine r_pick [] rfl ?_
    exact hx1  rfl
  · refine r_aload_n 0 dX13_chosen_31 rfl ?_
    refine r_iload_n 1 dX13_chosen_32 rfl ?_
    refine r_iload_n 2 dX13_chosen_33 rfl ?_
    obtain ⟨v1, ev1, h⟩ := bd0_some h
    refine q_cVI [.int x1, .int x2] dX13_chosen_34 cv_X13_346 (ci := 12) rfl rfl t0 rfl rfl (Nat.le_of_ble_eq_true rfl) (by omega) (kX13_isChosen (d - 1) (by omega) x0 x1 x2 t0 v1 ev1) ?_
    refine r_if_eq 42 dX13_chosen_37 (by decide) h (fun _ h => ?_) (fun _ h => ?_)
    · refine q_iinc (v := -1) 2 (fun v2 => [(2, .int v2), (0, .ref (G.2.1 x0)), (1, .int x1)]) dX13_chosen_42 rfl (by decide) (by decide) (fun _ => rfl) h (fun v2 h => ?_)
      refine r_goto 27 dX13_chosen_45 (by decide) ?_
      obtain rfl := Option.some.inj h
      refine r_pick [1, 2, 0] rfl ?_
      exact hb _ rfl
    · obtain rfl := Option.some.inj h
      refine r_pick [2] rfl ?_
      exact hx0 _ rfl
theorem kX13_chosen {l : Launch} {G : gg} {Γ : ly} {σ : mm} (d : Nat) (hdd : 5 ≤ d) (x0 : Nat) (x1 : Int32) (t0 : tyOK Γ (0, 12) x0) (r : (Int32 × mm)) (h : fX13_chosen Γ.2 σ x0 x1 = some r) : CT l G yX13_chosen cX13_chosen 3 (some .int) d 0 0 [.ref (G.2.1 x0), .int x1] Γ σ (PP (some (.int r.1)) Γ r.2) := by
  refine CT.ofWP (by decide) (Nat.le_of_ble_eq_true rfl) ?_
  have hQ : PP (some (.int r.1)) Γ r.2 (some (.int r.1)) Γ r.2 := PP.self
  generalize PP (some (.int r.1)) Γ r.2 = Q at hQ ⊢
  show WP l G yX13_chosen cX13_chosen 3 (some .int) d 0 0 Q 0 0 0 [(0, .ref (G.2.1 x0)), (1, .int x1)] [] Γ σ
  unfold fX13_chosen at h
  refine r_aload_n 0 dX13_chosen_0 rfl ?_
  refine r_iconst (v := 0) dX13_chosen_1 (by decide) ?_
  refine q_putI dX13_chosen_2 fd_X13_1 t0 h (fun τ1 h => ?_)
  refine r_aload_n 0 dX13_chosen_5 rfl ?_
  refine r_iload_n 1 dX13_chosen_6 rfl ?_
  obtain ⟨v2, ev2, h⟩ := bd0_some h
  refine q_cVI [.int x1] dX13_chosen_7 cv_X13_258 (ci := 12) rfl rfl t0 rfl rfl (Nat.le_of_ble_eq_true rfl) (by omega) (kX13_isGlass (d - 1) (by omega) x0 x1 t0 v2 ev2) ?_
  refine r_if_eq 21 dX13_chosen_10 (by decide) h (fun _ h => ?_) (fun _ h => ?_)
  · refine r_pick [] rfl ?_
    exact tX13_chosen_b21 hdd τ1  _ h hQ
  · refine r_aload_n 0 dX13_chosen_13 rfl ?_
    refine r_iload_n 1 dX13_chosen_14 rfl ?_
    obtain ⟨v3, ev3, h⟩ := bd0_some h
    refine q_cVI [.int x1] dX13_chosen_15 cv_X13_261 (ci := 12) rfl rfl t0 rfl rfl (Nat.le_of_ble_eq_true rfl) (by omega) (kX13_isLapsed (d - 1) (by omega) x0 x1 t0 v3 ev3) ?_
    refine r_if_eq 23 dX13_chosen_18 (by decide) h (fun _ h => ?_) (fun _ h => ?_)
    · refine r_sipush (v := 250) dX13_chosen_23 (by decide) ?_
      refine r_istore_n (lv' := [(2, .int (250 : Int32)), (0, .ref (G.2.1 x0)), (1, .int x1)]) dX13_chosen_26 (by decide) rfl ?_
      obtain ⟨b4, eb4, h⟩ := bd0_some h
      refine r_pick [1, 2, 0] rfl ?_
      refine sX13_chosen_L27 hdd τ1 x0 x1 t0 (K := fun b => b = b4) ?_ ?_ 1000 (250 : Int32) b4 eb4 rfl
      · rintro v5 rfl
        have h := cs2_0 h
        refine r_iload_n 0 dX13_chosen_40 rfl ?_
        obtain rfl := Option.some.inj h
        exact r_ireturn dX13_chosen_41 rfl hQ (Nat.le_refl _) (Nat.le_refl _)
      · rintro rfl
        have h := cs2_1 h
        refine r_iconst (v := -1) dX13_chosen_48 (by decide) ?_
        obtain rfl := Option.some.inj h
        exact r_ireturn dX13_chosen_49 rfl hQ (Nat.le_refl _) (Nat.le_refl _)
    · refine r_pick [] rfl ?_
      exact tX13_chosen_b21 hdd τ1  _ h hQ
theorem tX13_choices_b21 {l : Launch} {G : gg} {Γ : ly} {d : Nat} {Q : Option Value → ly → mm → Prop} (hdd : 5 ≤ d) (σ : mm)     (r : (Int32 × mm)) (h : fX13_choices_b21 Γ.2 σ  = some r) (hQ : Q (some (.int r.1)) Γ r.2) : WP l G yX13_choices cX13_choices 4 (some .int) d 0 0 Q 0 0 21 [] [] Γ σ := by
  unfold fX13_choices_b21 at h
  refine r_iconst (v := -1) dX13_choices_21 (by decide) ?_
  obtain rfl := Option.some.inj h
  exact r_ireturn dX13_choices_22 rfl hQ (Nat.le_refl _) (Nat.le_refl _)
theorem tX13_choices_b46 {l : Launch} {G : gg} {Γ : ly} {d : Nat} {Q : Option Value → ly → mm → Prop} (hdd : 5 ≤ d) (σ : mm) (x0 : Nat) (x1 : Int32) (x2 : Int32) (x3 : Int32)  (t0 : tyOK Γ (0, 12) x0)  (r : ((Int32 × Int32) ⊕ Int32)) (h : fX13_choices_b46 Γ.2 σ x0 x1 x2 x3 = some r) (hb : ∀ (x2 : Int32) (x3 : Int32), r = .inl (x2, x3) → WP l G yX13_choices cX13_choices 4 (some .int) d 0 0 Q 0 0 27 [(0, .ref (G.2.1 x0)), (1, .int x1), (2, .int x2), (3, .int x3)] [] Γ σ) (hx0 : ∀ (x2 : Int32), r = .inr x2 → WP l G yX13_choices cX13_choices 4 (some .int) d 0 0 Q 0 0 52 [(2, .int x2)] [] Γ σ) : WP l G yX13_choices cX13_choices 4 (some .int) d 0 0 Q 0 0 46 [(0, .ref (G.2.1 x0)), (1, .int x1), (2, .int x2), (3, .int x3)] [] Γ σ := by
  unfold fX13_choices_b46 at h
  refine q_iinc (v := 1) 3 (fun v1 => [(3, .int v1), (0, .ref (G.2.1 x0)), (1, .int x1), (2, .int x2)]) dX13_choices_46 rfl (by decide) (by decide) (fun _ => rfl) h (fun v1 h => ?_)
  refine r_goto 27 dX13_choices_49 (by decide) ?_
  obtain rfl := Option.some.inj h
  refine r_pick [1, 2, 3, 0] rfl ?_
  exact hb _ _ rfl
theorem sX13_choices_L27 {l : Launch} {G : gg} {Γ : ly} {d : Nat} {Q : Option Value → ly → mm → Prop} (hdd : 5 ≤ d) (σ : mm) (x0 : Nat) (x1 : Int32) (t0 : tyOK Γ (0, 12) x0) {K : Int32 → Prop} (kx0 : ∀ (x2 : Int32), K x2 → WP l G yX13_choices cX13_choices 4 (some .int) d 0 0 Q 0 0 52 [(2, .int x2)] [] Γ σ) : ∀ (N : Nat) (s : (Int32 × Int32)) (b : Int32), loopN (fX13_choices_L27 Γ.2 σ x0 x1) N s = some b → K b → WP l G yX13_choices cX13_choices 4 (some .int) d 0 0 Q 0 0 27 [(0, .ref (G.2.1 x0)), (1, .int x1), (2, .int s.1), (3, .int s.2)] [] Γ σ := by
  refine r_loop (f := fX13_choices_L27 Γ.2 σ x0 x1) (hlv := fun s => [(0, .ref (G.2.1 x0)), (1, .int x1), (2, .int s.1), (3, .int s.2)]) (hsg := fun s => σ) ?_
  rintro ⟨x2, x3⟩ r h hb hx
  have hb : ∀ (x2 : Int32) (x3 : Int32), r = .inl (x2, x3) → WP l G yX13_choices cX13_choices 4 (some .int) d 0 0 Q 0 0 27 [(0, .ref (G.2.1 x0)), (1, .int x1), (2, .int x2), (3, .int x3)] [] Γ σ := fun x2 x3 e => hb (x2, x3) e
  have hx0 : ∀ (x2 : Int32), r = .inr x2 → WP l G yX13_choices cX13_choices 4 (some .int) d 0 0 Q 0 0 52 [(2, .int x2)] [] Γ σ := fun x2 e => kx0 x2 (hx _ e)
  unfold fX13_choices_L27 at h
  have h := un2_some h
  show WP l G yX13_choices cX13_choices 4 (some .int) d 0 0 Q 0 0 27 [(0, .ref (G.2.1 x0)), (1, .int x1), (2, .int x2), (3, .int x3)] [] Γ σ
  refine r_iload_n 3 dX13_choices_27 rfl ?_
  refine r_sipush (v := 250) dX13_choices_28 (by decide) ?_
  refine r_icmp_gt 52 dX13_choices_31 (by decide) h (fun _ h => ?_) (fun _ h => ?_)
  · obtain rfl := Option.some.inj h
    refine r_pick [2] rfl ?_
    exact hx0 _ rfl
  · refine r_aload_n 0 dX13_choices_34 rfl ?_
    refine r_iload_n 1 dX13_choices_35 rfl ?_
    refine r_iload_n 3 dX13_choices_36 rfl ?_
    obtain ⟨v1, ev1, h⟩ := bd0_some h
    refine q_cVI [.int x1, .int x3] dX13_choices_37 cv_X13_346 (ci := 12) rfl rfl t0 rfl rfl (Nat.le_of_ble_eq_true rfl) (by omega) (kX13_isChosen (d - 1) (by omega) x0 x1 x3 t0 v1 ev1) ?_
    refine r_if_eq 46 dX13_choices_40 (by decide) h (fun _ h => ?_) (fun _ h => ?_)
    · exact tX13_choices_b46 hdd σ x0 x1 x2 x3 t0 _ h hb hx0
    · refine q_iinc (v := 1) 2 (fun v2 => [(2, .int v2), (0, .ref (G.2.1 x0)), (1, .int x1), (3, .int x3)]) dX13_choices_43 rfl (by decide) (by decide) (fun _ => rfl) h (fun v2 h => ?_)
      refine r_pick [1, 2, 0, 3] rfl ?_
      exact tX13_choices_b46 hdd σ x0 x1 v2 x3 t0 _ h hb hx0
theorem kX13_choices {l : Launch} {G : gg} {Γ : ly} {σ : mm} (d : Nat) (hdd : 5 ≤ d) (x0 : Nat) (x1 : Int32) (t0 : tyOK Γ (0, 12) x0) (r : (Int32 × mm)) (h : fX13_choices Γ.2 σ x0 x1 = some r) : CT l G yX13_choices cX13_choices 4 (some .int) d 0 0 [.ref (G.2.1 x0), .int x1] Γ σ (PP (some (.int r.1)) Γ r.2) := by
  refine CT.ofWP (by decide) (Nat.le_of_ble_eq_true rfl) ?_
  have hQ : PP (some (.int r.1)) Γ r.2 (some (.int r.1)) Γ r.2 := PP.self
  generalize PP (some (.int r.1)) Γ r.2 = Q at hQ ⊢
  show WP l G yX13_choices cX13_choices 4 (some .int) d 0 0 Q 0 0 0 [(0, .ref (G.2.1 x0)), (1, .int x1)] [] Γ σ
  unfold fX13_choices at h
  refine r_aload_n 0 dX13_choices_0 rfl ?_
  refine r_iconst (v := 0) dX13_choices_1 (by decide) ?_
  refine q_putI dX13_choices_2 fd_X13_1 t0 h (fun τ1 h => ?_)
  refine r_aload_n 0 dX13_choices_5 rfl ?_
  refine r_iload_n 1 dX13_choices_6 rfl ?_
  obtain ⟨v2, ev2, h⟩ := bd0_some h
  refine q_cVI [.int x1] dX13_choices_7 cv_X13_258 (ci := 12) rfl rfl t0 rfl rfl (Nat.le_of_ble_eq_true rfl) (by omega) (kX13_isGlass (d - 1) (by omega) x0 x1 t0 v2 ev2) ?_
  refine r_if_eq 21 dX13_choices_10 (by decide) h (fun _ h => ?_) (fun _ h => ?_)
  · refine r_pick [] rfl ?_
    exact tX13_choices_b21 hdd τ1  _ h hQ
  · refine r_aload_n 0 dX13_choices_13 rfl ?_
    refine r_iload_n 1 dX13_choices_14 rfl ?_
    obtain ⟨v3, ev3, h⟩ := bd0_some h
    refine q_cVI [.int x1] dX13_choices_15 cv_X13_261 (ci := 12) rfl rfl t0 rfl rfl (Nat.le_of_ble_eq_true rfl) (by omega) (kX13_isLapsed (d - 1) (by omega) x0 x1 t0 v3 ev3) ?_
    refine r_if_eq 23 dX13_choices_18 (by decide) h (fun _ h => ?_) (fun _ h => ?_)
    · refine r_iconst (v := 0) dX13_choices_23 (by decide) ?_
      refine r_istore_n (lv' := [(2, .int (0 : Int32)), (0, .ref (G.2.1 x0)), (1, .int x1)]) dX13_choices_24 (by decide) rfl ?_
      refine r_iconst (v := 1) dX13_choices_25 (by decide) ?_
      refine r_istore_n (lv' := [(3, .int (1 : Int32)), (2, .int (0 : Int32)), (0, .ref (G.2.1 x0)), (1, .int x1)]) dX13_choices_26 (by decide) rfl ?_
      obtain ⟨b4, eb4, h⟩ := bd0_some h
      refine r_pick [2, 3, 1, 0] rfl ?_
      refine sX13_choices_L27 hdd τ1 x0 x1 t0 (K := fun b => b = b4) ?_ 1000 ((0 : Int32), (1 : Int32)) b4 eb4 rfl
      rintro v5 rfl
      refine r_iload_n 0 dX13_choices_52 rfl ?_
      obtain rfl := Option.some.inj h
      exact r_ireturn dX13_choices_53 rfl hQ (Nat.le_refl _) (Nat.le_refl _)
    · refine r_pick [] rfl ?_
      exact tX13_choices_b21 hdd τ1  _ h hQ
theorem sX13_playOf_L30 {l : Launch} {G : gg} {Γ : ly} {d : Nat} {Q : Option Value → ly → mm → Prop} (hdd : 5 ≤ d) (x0 : Nat) (x1 : Int32) (x2 : Int32) (t0 : tyOK Γ (0, 12) x0) {K : (mm ⊕ mm ⊕ mm) → Prop} (kx0 : ∀ (σ9 : mm), K (.inl σ9) → WP l G yX13_playOf cX13_playOf 4 (some .int) d 0 0 Q 0 0 57 [(0, .ref (G.2.1 x0)), (1, .int x1)] [] Γ σ9) (kx1 : ∀ (σ9 : mm), K (.inr (.inl σ9)) → WP l G yX13_playOf cX13_playOf 4 (some .int) d 0 0 Q 0 0 84 [(0, .ref (G.2.1 x0)), (1, .int x1)] [] Γ σ9) (kx2 : ∀ (σ9 : mm), K (.inr (.inr σ9)) → WP l G yX13_playOf cX13_playOf 4 (some .int) d 0 0 Q 0 0 100 [] [] Γ σ9) : ∀ (N : Nat) (s : (Int32 × mm)) (b : (mm ⊕ mm ⊕ mm)), loopN (fX13_playOf_L30 Γ.2 x0 x1 x2) N s = some b → K b → WP l G yX13_playOf cX13_playOf 4 (some .int) d 0 0 Q 0 0 30 [(0, .ref (G.2.1 x0)), (1, .int x1), (2, .int x2), (3, .int s.1)] [] Γ s.2 := by
  refine r_loop (f := fX13_playOf_L30 Γ.2 x0 x1 x2) (hlv := fun s => [(0, .ref (G.2.1 x0)), (1, .int x1), (2, .int x2), (3, .int s.1)]) (hsg := fun s => s.2) ?_
  rintro ⟨x3, σ⟩ r h hb hx
  have hb : ∀ (x3 : Int32) (σ : mm), r = .inl (x3, σ) → WP l G yX13_playOf cX13_playOf 4 (some .int) d 0 0 Q 0 0 30 [(0, .ref (G.2.1 x0)), (1, .int x1), (2, .int x2), (3, .int x3)] [] Γ σ := fun x3 σ e => hb (x3, σ) e
  have hx0 : ∀ (σ9 : mm), r = .inr (.inl σ9) → WP l G yX13_playOf cX13_playOf 4 (some .int) d 0 0 Q 0 0 57 [(0, .ref (G.2.1 x0)), (1, .int x1)] [] Γ σ9 := fun σ9 e => kx0 σ9 (hx _ e)
  have hx1 : ∀ (σ9 : mm), r = .inr (.inr (.inl σ9)) → WP l G yX13_playOf cX13_playOf 4 (some .int) d 0 0 Q 0 0 84 [(0, .ref (G.2.1 x0)), (1, .int x1)] [] Γ σ9 := fun σ9 e => kx1 σ9 (hx _ e)
  have hx2 : ∀ (σ9 : mm), r = .inr (.inr (.inr σ9)) → WP l G yX13_playOf cX13_playOf 4 (some .int) d 0 0 Q 0 0 100 [] [] Γ σ9 := fun σ9 e => kx2 σ9 (hx _ e)
  unfold fX13_playOf_L30 at h
  have h := un2_some h
  show WP l G yX13_playOf cX13_playOf 4 (some .int) d 0 0 Q 0 0 30 [(0, .ref (G.2.1 x0)), (1, .int x1), (2, .int x2), (3, .int x3)] [] Γ σ
  refine r_iload_n 3 dX13_playOf_30 rfl ?_
  refine r_iload_n 2 dX13_playOf_31 rfl ?_
  refine r_icmp_lt 100 dX13_playOf_32 (by decide) h (fun _ h => ?_) (fun _ h => ?_)
  · obtain rfl := Option.some.inj h
    refine r_pick [] rfl ?_
    exact hx2 _ rfl
  · refine r_aload_n 0 dX13_playOf_35 rfl ?_
    refine r_iload_n 3 dX13_playOf_36 rfl ?_
    refine q_putI dX13_playOf_37 fd_X13_349 t0 h (fun τ1 h => ?_)
    refine r_aload_n 0 dX13_playOf_40 rfl ?_
    refine r_aload_n 0 dX13_playOf_41 rfl ?_
    refine q_getR (e9 := (1, 0)) dX13_playOf_42 fd_X13_98 t0 rfl h (fun r2 tr2 h => ?_)
    refine r_bipush (v := 60) dX13_playOf_45 (by decide) ?_
    refine r_iload_n 1 dX13_playOf_47 rfl ?_
    refine r_iadd dX13_playOf_48 ?_
    refine q_iald dX13_playOf_49 tr2 h (fun v3 h => ?_)
    refine r_iload_n 3 dX13_playOf_50 rfl ?_
    obtain ⟨v4, ev4, h⟩ := bd0_some h
    refine q_cVI [.int v3, .int x3] dX13_playOf_51 cv_X13_255 (ci := 12) rfl rfl t0 rfl rfl (Nat.le_of_ble_eq_true rfl) (by omega) (kX13_isWilling (d - 1) (by omega) x0 v3 x3 t0 v4 ev4) ?_
    refine r_if_eq 67 dX13_playOf_54 (by decide) h (fun _ h => ?_) (fun _ h => ?_)
    · refine r_aload_n 0 dX13_playOf_67 rfl ?_
      refine r_aload_n 0 dX13_playOf_68 rfl ?_
      refine q_getR (e9 := (1, 0)) dX13_playOf_69 fd_X13_98 t0 rfl h (fun r5 tr5 h => ?_)
      refine r_bipush (v := 56) dX13_playOf_72 (by decide) ?_
      refine r_iload_n 1 dX13_playOf_74 rfl ?_
      refine r_iadd dX13_playOf_75 ?_
      refine q_iald dX13_playOf_76 tr5 h (fun v6 h => ?_)
      refine r_iload_n 3 dX13_playOf_77 rfl ?_
      obtain ⟨v7, ev7, h⟩ := bd0_some h
      refine q_cVI [.int v6, .int x3] dX13_playOf_78 cv_X13_255 (ci := 12) rfl rfl t0 rfl rfl (Nat.le_of_ble_eq_true rfl) (by omega) (kX13_isWilling (d - 1) (by omega) x0 v6 x3 t0 v7 ev7) ?_
      refine r_if_eq 94 dX13_playOf_81 (by decide) h (fun _ h => ?_) (fun _ h => ?_)
      · refine q_iinc (v := -1) 3 (fun v8 => [(3, .int v8), (0, .ref (G.2.1 x0)), (1, .int x1), (2, .int x2)]) dX13_playOf_94 rfl (by decide) (by decide) (fun _ => rfl) h (fun v8 h => ?_)
        refine r_goto 30 dX13_playOf_97 (by decide) ?_
        obtain rfl := Option.some.inj h
        refine r_pick [1, 2, 3, 0] rfl ?_
        exact hb _ _ rfl
      · obtain rfl := Option.some.inj h
        refine r_pick [0, 1] rfl ?_
        exact hx1 _ rfl
    · obtain rfl := Option.some.inj h
      refine r_pick [0, 1] rfl ?_
      exact hx0 _ rfl
theorem kX13_playOf {l : Launch} {G : gg} {Γ : ly} {σ : mm} (d : Nat) (hdd : 5 ≤ d) (x0 : Nat) (x1 : Int32) (t0 : tyOK Γ (0, 12) x0) (r : (Int32 × mm)) (h : fX13_playOf Γ.2 σ x0 x1 = some r) : CT l G yX13_playOf cX13_playOf 4 (some .int) d 0 0 [.ref (G.2.1 x0), .int x1] Γ σ (PP (some (.int r.1)) Γ r.2) := by
  refine CT.ofWP (by decide) (Nat.le_of_ble_eq_true rfl) ?_
  have hQ : PP (some (.int r.1)) Γ r.2 (some (.int r.1)) Γ r.2 := PP.self
  generalize PP (some (.int r.1)) Γ r.2 = Q at hQ ⊢
  show WP l G yX13_playOf cX13_playOf 4 (some .int) d 0 0 Q 0 0 0 [(0, .ref (G.2.1 x0)), (1, .int x1)] [] Γ σ
  unfold fX13_playOf at h
  refine r_aload_n 0 dX13_playOf_0 rfl ?_
  refine r_iload_n 1 dX13_playOf_1 rfl ?_
  obtain ⟨v1, ev1, h⟩ := bd0_some h
  refine q_cVI [.int x1] dX13_playOf_2 cv_X13_315 (ci := 12) rfl rfl t0 rfl rfl (Nat.le_of_ble_eq_true rfl) (by omega) (kX13_endOf (d - 1) (by omega) x0 x1 t0 v1 ev1) ?_
  refine r_istore_n (lv' := [(2, .int v1), (0, .ref (G.2.1 x0)), (1, .int x1)]) dX13_playOf_5 (by decide) rfl ?_
  refine r_iload_n 0 dX13_playOf_6 rfl ?_
  refine r_iconst (v := -1) dX13_playOf_7 (by decide) ?_
  refine r_icmp_ne 13 dX13_playOf_8 (by decide) h (fun _ h => ?_) (fun _ h => ?_)
  · refine r_sipush (v := 600) dX13_playOf_13 (by decide) ?_
    refine r_iload_n 0 dX13_playOf_16 rfl ?_
    refine r_aload_n 1 dX13_playOf_17 rfl ?_
    refine q_getR (e9 := (1, 0)) dX13_playOf_18 fd_X13_98 t0 rfl h (fun r2 tr2 h => ?_)
    refine r_iconst (v := 3) dX13_playOf_21 (by decide) ?_
    refine q_iald dX13_playOf_22 tr2 h (fun v3 h => ?_)
    refine r_iadd dX13_playOf_23 ?_
    obtain ⟨v4, ev4, h⟩ := bd0_some h
    refine q_cSI [.int (600 : Int32), .int (v1 + v3)] dX13_playOf_24 cs_X13_227 rfl rfl (Nat.le_of_ble_eq_true rfl) (by omega) (kX13_least (d - 1) (by omega) (600 : Int32) (v1 + v3)  v4 ev4) ?_
    refine r_iconst (v := 1) dX13_playOf_27 (by decide) ?_
    refine r_isub dX13_playOf_28 ?_
    refine q_nmI h (fun v5 h => ?_)
    refine r_istore_n (lv' := [(3, .int v5), (2, .int v1), (0, .ref (G.2.1 x0)), (1, .int x1)]) dX13_playOf_29 (by decide) rfl ?_
    obtain ⟨b6, eb6, h⟩ := bd0_some h
    refine r_pick [2, 3, 1, 0] rfl ?_
    refine sX13_playOf_L30 hdd x0 x1 v1 t0 (K := fun b => b = b6) ?_ ?_ ?_ 1000 (v5, σ) b6 eb6 rfl
    · rintro τ7 rfl
      have h := cs3_0 h
      refine r_aload_n 0 dX13_playOf_57 rfl ?_
      refine q_getR (e9 := (1, 0)) dX13_playOf_58 fd_X13_98 t0 rfl h (fun r8 tr8 h => ?_)
      refine r_bipush (v := 60) dX13_playOf_61 (by decide) ?_
      refine r_iload_n 1 dX13_playOf_63 rfl ?_
      refine r_iadd dX13_playOf_64 ?_
      refine q_iald dX13_playOf_65 tr8 h (fun v9 h => ?_)
      obtain rfl := Option.some.inj h
      exact r_ireturn dX13_playOf_66 rfl hQ (Nat.le_refl _) (Nat.le_refl _)
    · rintro τ10 rfl
      have h := cs3_1 h
      refine r_aload_n 0 dX13_playOf_84 rfl ?_
      refine q_getR (e9 := (1, 0)) dX13_playOf_85 fd_X13_98 t0 rfl h (fun r11 tr11 h => ?_)
      refine r_bipush (v := 56) dX13_playOf_88 (by decide) ?_
      refine r_iload_n 1 dX13_playOf_90 rfl ?_
      refine r_iadd dX13_playOf_91 ?_
      refine q_iald dX13_playOf_92 tr11 h (fun v12 h => ?_)
      obtain rfl := Option.some.inj h
      exact r_ireturn dX13_playOf_93 rfl hQ (Nat.le_refl _) (Nat.le_refl _)
    · rintro τ13 rfl
      have h := cs3_2 h
      refine r_iconst (v := -1) dX13_playOf_100 (by decide) ?_
      obtain rfl := Option.some.inj h
      exact r_ireturn dX13_playOf_101 rfl hQ (Nat.le_refl _) (Nat.le_refl _)
  · refine r_iconst (v := -1) dX13_playOf_11 (by decide) ?_
    obtain rfl := Option.some.inj h
    exact r_ireturn dX13_playOf_12 rfl hQ (Nat.le_refl _) (Nat.le_refl _)
theorem kX13_play {l : Launch} {G : gg} {Γ : ly} {σ : mm} (d : Nat) (hdd : 6 ≤ d) (x0 : Nat) (x1 : Int32) (t0 : tyOK Γ (0, 12) x0) (r : (Int32 × mm)) (h : fX13_play Γ.2 σ x0 x1 = some r) : CT l G yX13_play cX13_play 2 (some .int) d 0 0 [.ref (G.2.1 x0), .int x1] Γ σ (PP (some (.int r.1)) Γ r.2) := by
  refine CT.ofWP (by decide) (Nat.le_of_ble_eq_true rfl) ?_
  have hQ : PP (some (.int r.1)) Γ r.2 (some (.int r.1)) Γ r.2 := PP.self
  generalize PP (some (.int r.1)) Γ r.2 = Q at hQ ⊢
  show WP l G yX13_play cX13_play 2 (some .int) d 0 0 Q 0 0 0 [(0, .ref (G.2.1 x0)), (1, .int x1)] [] Γ σ
  unfold fX13_play at h
  refine r_aload_n 0 dX13_play_0 rfl ?_
  refine r_iconst (v := 0) dX13_play_1 (by decide) ?_
  refine q_putI dX13_play_2 fd_X13_1 t0 h (fun τ1 h => ?_)
  refine r_aload_n 0 dX13_play_5 rfl ?_
  refine r_iload_n 1 dX13_play_6 rfl ?_
  obtain ⟨v2, τ3, ev2, h⟩ := bd2_some h
  refine q_cVI [.int x1] dX13_play_7 cv_X13_352 (ci := 12) rfl rfl t0 rfl rfl (Nat.le_of_ble_eq_true rfl) (by omega) (kX13_playOf (d - 1) (by omega) x0 x1 t0 (v2, τ3) ev2) ?_
  obtain rfl := Option.some.inj h
  exact r_ireturn dX13_play_10 rfl hQ (Nat.le_refl _) (Nat.le_refl _)
theorem tX13_playAt_b22 {l : Launch} {G : gg} {Γ : ly} {d : Nat} {Q : Option Value → ly → mm → Prop} (hdd : 6 ≤ d) (σ : mm)  (s0 : Int32)   (r : (Int32 × mm)) (h : fX13_playAt_b22 Γ.2 σ s0 = some r) (hQ : Q (some (.int r.1)) Γ r.2) : WP l G yX13_playAt cX13_playAt 2 (some .int) d 0 0 Q 0 0 22 [] [.int s0] Γ σ := by
  unfold fX13_playAt_b22 at h
  obtain rfl := Option.some.inj h
  exact r_ireturn dX13_playAt_22 rfl hQ (Nat.le_refl _) (Nat.le_refl _)
theorem kX13_playAt {l : Launch} {G : gg} {Γ : ly} {σ : mm} (d : Nat) (hdd : 6 ≤ d) (x0 : Nat) (x1 : Int32) (t0 : tyOK Γ (0, 12) x0) (r : (Int32 × mm)) (h : fX13_playAt Γ.2 σ x0 x1 = some r) : CT l G yX13_playAt cX13_playAt 2 (some .int) d 0 0 [.ref (G.2.1 x0), .int x1] Γ σ (PP (some (.int r.1)) Γ r.2) := by
  refine CT.ofWP (by decide) (Nat.le_of_ble_eq_true rfl) ?_
  have hQ : PP (some (.int r.1)) Γ r.2 (some (.int r.1)) Γ r.2 := PP.self
  generalize PP (some (.int r.1)) Γ r.2 = Q at hQ ⊢
  show WP l G yX13_playAt cX13_playAt 2 (some .int) d 0 0 Q 0 0 0 [(0, .ref (G.2.1 x0)), (1, .int x1)] [] Γ σ
  unfold fX13_playAt at h
  refine r_aload_n 0 dX13_playAt_0 rfl ?_
  refine r_iconst (v := 0) dX13_playAt_1 (by decide) ?_
  refine q_putI dX13_playAt_2 fd_X13_1 t0 h (fun τ1 h => ?_)
  refine r_aload_n 0 dX13_playAt_5 rfl ?_
  refine r_iload_n 1 dX13_playAt_6 rfl ?_
  obtain ⟨v2, τ3, ev2, h⟩ := bd2_some h
  refine q_cVI [.int x1] dX13_playAt_7 cv_X13_352 (ci := 12) rfl rfl t0 rfl rfl (Nat.le_of_ble_eq_true rfl) (by omega) (kX13_playOf (d - 1) (by omega) x0 x1 t0 (v2, τ3) ev2) ?_
  refine r_iconst (v := -1) dX13_playAt_10 (by decide) ?_
  refine r_icmp_ne 18 dX13_playAt_11 (by decide) h (fun _ h => ?_) (fun _ h => ?_)
  · refine r_aload_n 0 dX13_playAt_18 rfl ?_
    refine r_getI dX13_playAt_19 fd_X13_349 t0 ?_
    refine r_pick [] rfl ?_
    exact tX13_playAt_b22 hdd τ3 (τ3.1 x0 29)  _ h hQ
  · refine r_iconst (v := -1) dX13_playAt_14 (by decide) ?_
    refine r_goto 22 dX13_playAt_15 (by decide) ?_
    refine r_pick [] rfl ?_
    exact tX13_playAt_b22 hdd τ3 (-1 : Int32)  _ h hQ
theorem tX13_steal_b39 {l : Launch} {G : gg} {Γ : ly} {d : Nat} {Q : Option Value → ly → mm → Prop} (hdd : 6 ≤ d) (σ : mm)     (r : (Int32 × mm)) (h : fX13_steal_b39 Γ.2 σ  = some r) (hQ : Q (some (.int r.1)) Γ r.2) : WP l G yX13_steal cX13_steal 6 (some .int) d 0 0 Q 0 0 39 [] [] Γ σ := by
  unfold fX13_steal_b39 at h
  refine r_iconst (v := -1) dX13_steal_39 (by decide) ?_
  obtain rfl := Option.some.inj h
  exact r_ireturn dX13_steal_40 rfl hQ (Nat.le_refl _) (Nat.le_refl _)
theorem sX13_steal_L86 {l : Launch} {G : gg} {Γ : ly} {d : Nat} {Q : Option Value → ly → mm → Prop} (hdd : 6 ≤ d) (x0 : Nat) (x1 : Int32) (x2 : Int32) (x3 : Int32) (x4 : Int32) (x5 : Int32) (t0 : tyOK Γ (0, 12) x0) {K : mm → Prop} (kx0 : ∀ (σ9 : mm), K σ9 → WP l G yX13_steal cX13_steal 6 (some .int) d 0 0 Q 0 0 112 [(0, .ref (G.2.1 x0)), (1, .int x1), (2, .int x2), (3, .int x3), (4, .int x4), (5, .int x5)] [] Γ σ9) : ∀ (N : Nat) (s : mm) (b : mm), loopN (fX13_steal_L86 Γ.2 x0 x1 x2 x3 x4 x5) N s = some b → K b → WP l G yX13_steal cX13_steal 6 (some .int) d 0 0 Q 0 0 86 [(0, .ref (G.2.1 x0)), (1, .int x1), (2, .int x2), (3, .int x3), (4, .int x4), (5, .int x5)] [] Γ s := by
  refine r_loop (f := fX13_steal_L86 Γ.2 x0 x1 x2 x3 x4 x5) (hlv := fun s => [(0, .ref (G.2.1 x0)), (1, .int x1), (2, .int x2), (3, .int x3), (4, .int x4), (5, .int x5)]) (hsg := fun s => s) ?_
  rintro σ r h hb hx
  have hx0 : ∀ (σ9 : mm), r = .inr σ9 → WP l G yX13_steal cX13_steal 6 (some .int) d 0 0 Q 0 0 112 [(0, .ref (G.2.1 x0)), (1, .int x1), (2, .int x2), (3, .int x3), (4, .int x4), (5, .int x5)] [] Γ σ9 := fun σ9 e => kx0 σ9 (hx _ e)
  unfold fX13_steal_L86 at h
  show WP l G yX13_steal cX13_steal 6 (some .int) d 0 0 Q 0 0 86 [(0, .ref (G.2.1 x0)), (1, .int x1), (2, .int x2), (3, .int x3), (4, .int x4), (5, .int x5)] [] Γ σ
  refine r_aload_n 0 dX13_steal_86 rfl ?_
  refine q_getR (e9 := (1, 0)) dX13_steal_87 fd_X13_98 t0 rfl h (fun r1 tr1 h => ?_)
  refine r_bipush (v := 102) dX13_steal_90 (by decide) ?_
  refine q_iald dX13_steal_92 tr1 h (fun v2 h => ?_)
  refine r_iload_n 2 dX13_steal_93 rfl ?_
  refine r_icmp_ge 112 dX13_steal_94 (by decide) h (fun _ h => ?_) (fun _ h => ?_)
  · obtain rfl := Option.some.inj h
    exact hx0 _ rfl
  · refine r_aload_n 0 dX13_steal_97 rfl ?_
    refine r_iload_n 1 dX13_steal_98 rfl ?_
    obtain ⟨v3, ev3, h⟩ := bd0_some h
    refine q_cVI [.int x1] dX13_steal_99 cv_X13_261 (ci := 12) rfl rfl t0 rfl rfl (Nat.le_of_ble_eq_true rfl) (by omega) (kX13_isLapsed (d - 1) (by omega) x0 x1 t0 v3 ev3) ?_
    refine r_if_ne 112 dX13_steal_102 (by decide) h (fun _ h => ?_) (fun _ h => ?_)
    · obtain rfl := Option.some.inj h
      exact hx0 _ rfl
    · refine r_aload_n 0 dX13_steal_105 rfl ?_
      obtain ⟨τ4, eτ4, h⟩ := bd0_some h
      refine q_cVV [] dX13_steal_106 cv_X13_306 (ci := 12) rfl rfl t0 rfl rfl (Nat.le_of_ble_eq_true rfl) (by omega) (kX13_oneHour (d - 1) (by omega) x0 t0 τ4 eτ4) ?_
      refine r_goto 86 dX13_steal_109 (by decide) ?_
      obtain rfl := Option.some.inj h
      exact hb _ rfl
theorem tX13_steal_b124 {l : Launch} {G : gg} {Γ : ly} {d : Nat} {Q : Option Value → ly → mm → Prop} (hdd : 6 ≤ d) (σ : mm) (x0 : Nat) (x1 : Int32) (x2 : Int32) (x3 : Int32) (x4 : Int32) (x5 : Int32)  (t0 : tyOK Γ (0, 12) x0)  (r : ((Int32 × Int32 × mm) ⊕ (Int32 × mm))) (h : fX13_steal_b124 Γ.2 σ x0 x1 x2 x3 x4 x5 = some r) (hb : ∀ (x4 : Int32) (x5 : Int32) (σ9 : mm), r = .inl (x4, x5, σ9) → WP l G yX13_steal cX13_steal 6 (some .int) d 0 0 Q 0 0 61 [(0, .ref (G.2.1 x0)), (1, .int x1), (2, .int x2), (3, .int x3), (4, .int x4), (5, .int x5)] [] Γ σ9) (hx0 : ∀ (x4 : Int32) (σ9 : mm), r = .inr (x4, σ9) → WP l G yX13_steal cX13_steal 6 (some .int) d 0 0 Q 0 0 134 [(4, .int x4)] [] Γ σ9) : WP l G yX13_steal cX13_steal 6 (some .int) d 0 0 Q 0 0 124 [(0, .ref (G.2.1 x0)), (1, .int x1), (2, .int x2), (3, .int x3), (4, .int x4), (5, .int x5)] [] Γ σ := by
  unfold fX13_steal_b124 at h
  refine r_aload_n 0 dX13_steal_124 rfl ?_
  obtain ⟨τ1, eτ1, h⟩ := bd0_some h
  refine q_cVV [] dX13_steal_125 cv_X13_321 (ci := 12) rfl rfl t0 rfl rfl (Nat.le_of_ble_eq_true rfl) (by omega) (kX13_takeBack (d - 1) (by omega) x0 t0 τ1 eτ1) ?_
  refine q_iinc (v := 1) 5 (fun v2 => [(5, .int v2), (0, .ref (G.2.1 x0)), (1, .int x1), (2, .int x2), (3, .int x3), (4, .int x4)]) dX13_steal_128 rfl (by decide) (by decide) (fun _ => rfl) h (fun v2 h => ?_)
  refine r_goto 61 dX13_steal_131 (by decide) ?_
  obtain rfl := Option.some.inj h
  refine r_pick [1, 2, 3, 4, 5, 0] rfl ?_
  exact hb _ _ _ rfl
theorem tX13_steal_b112 {l : Launch} {G : gg} {Γ : ly} {d : Nat} {Q : Option Value → ly → mm → Prop} (hdd : 6 ≤ d) (σ : mm) (x0 : Nat) (x1 : Int32) (x2 : Int32) (x3 : Int32) (x4 : Int32) (x5 : Int32)  (t0 : tyOK Γ (0, 12) x0)  (r : ((Int32 × Int32 × mm) ⊕ (Int32 × mm))) (h : fX13_steal_b112 Γ.2 σ x0 x1 x2 x3 x4 x5 = some r) (hb : ∀ (x4 : Int32) (x5 : Int32) (σ9 : mm), r = .inl (x4, x5, σ9) → WP l G yX13_steal cX13_steal 6 (some .int) d 0 0 Q 0 0 61 [(0, .ref (G.2.1 x0)), (1, .int x1), (2, .int x2), (3, .int x3), (4, .int x4), (5, .int x5)] [] Γ σ9) (hx0 : ∀ (x4 : Int32) (σ9 : mm), r = .inr (x4, σ9) → WP l G yX13_steal cX13_steal 6 (some .int) d 0 0 Q 0 0 134 [(4, .int x4)] [] Γ σ9) : WP l G yX13_steal cX13_steal 6 (some .int) d 0 0 Q 0 0 112 [(0, .ref (G.2.1 x0)), (1, .int x1), (2, .int x2), (3, .int x3), (4, .int x4), (5, .int x5)] [] Γ σ := by
  unfold fX13_steal_b112 at h
  refine r_aload_n 0 dX13_steal_112 rfl ?_
  refine r_iload_n 1 dX13_steal_113 rfl ?_
  obtain ⟨v1, ev1, h⟩ := bd0_some h
  refine q_cVI [.int x1] dX13_steal_114 cv_X13_261 (ci := 12) rfl rfl t0 rfl rfl (Nat.le_of_ble_eq_true rfl) (by omega) (kX13_isLapsed (d - 1) (by omega) x0 x1 t0 v1 ev1) ?_
  refine r_if_eq 124 dX13_steal_117 (by decide) h (fun _ h => ?_) (fun _ h => ?_)
  · exact tX13_steal_b124 hdd σ x0 x1 x2 x3 x4 x5 t0 _ h hb hx0
  · refine r_iload 5 dX13_steal_120 rfl ?_
    refine r_istore (lv' := [(4, .int x5), (0, .ref (G.2.1 x0)), (1, .int x1), (2, .int x2), (3, .int x3), (5, .int x5)]) dX13_steal_122 (by decide) rfl ?_
    refine r_pick [1, 2, 3, 4, 0, 5] rfl ?_
    exact tX13_steal_b124 hdd σ x0 x1 x2 x3 x5 x5 t0 _ h hb hx0
theorem sX13_steal_L61 {l : Launch} {G : gg} {Γ : ly} {d : Nat} {Q : Option Value → ly → mm → Prop} (hdd : 6 ≤ d) (x0 : Nat) (x1 : Int32) (x2 : Int32) (x3 : Int32) (t0 : tyOK Γ (0, 12) x0) {K : (Int32 × mm) → Prop} (kx0 : ∀ (x4 : Int32) (σ9 : mm), K (x4, σ9) → WP l G yX13_steal cX13_steal 6 (some .int) d 0 0 Q 0 0 134 [(4, .int x4)] [] Γ σ9) : ∀ (N : Nat) (s : (Int32 × Int32 × mm)) (b : (Int32 × mm)), loopN (fX13_steal_L61 Γ.2 x0 x1 x2 x3) N s = some b → K b → WP l G yX13_steal cX13_steal 6 (some .int) d 0 0 Q 0 0 61 [(0, .ref (G.2.1 x0)), (1, .int x1), (2, .int x2), (3, .int x3), (4, .int s.1), (5, .int s.2.1)] [] Γ s.2.2 := by
  refine r_loop (f := fX13_steal_L61 Γ.2 x0 x1 x2 x3) (hlv := fun s => [(0, .ref (G.2.1 x0)), (1, .int x1), (2, .int x2), (3, .int x3), (4, .int s.1), (5, .int s.2.1)]) (hsg := fun s => s.2.2) ?_
  rintro ⟨x4, x5, σ⟩ r h hb hx
  have hb : ∀ (x4 : Int32) (x5 : Int32) (σ : mm), r = .inl (x4, x5, σ) → WP l G yX13_steal cX13_steal 6 (some .int) d 0 0 Q 0 0 61 [(0, .ref (G.2.1 x0)), (1, .int x1), (2, .int x2), (3, .int x3), (4, .int x4), (5, .int x5)] [] Γ σ := fun x4 x5 σ e => hb (x4, x5, σ) e
  have hx0 : ∀ (x4 : Int32) (σ9 : mm), r = .inr (x4, σ9) → WP l G yX13_steal cX13_steal 6 (some .int) d 0 0 Q 0 0 134 [(4, .int x4)] [] Γ σ9 := fun x4 σ9 e => kx0 x4 σ9 (hx _ e)
  unfold fX13_steal_L61 at h
  have h := un3_some h
  show WP l G yX13_steal cX13_steal 6 (some .int) d 0 0 Q 0 0 61 [(0, .ref (G.2.1 x0)), (1, .int x1), (2, .int x2), (3, .int x3), (4, .int x4), (5, .int x5)] [] Γ σ
  refine r_iload 5 dX13_steal_61 rfl ?_
  refine r_iload_n 3 dX13_steal_63 rfl ?_
  refine r_icmp_gt 134 dX13_steal_64 (by decide) h (fun _ h => ?_) (fun _ h => ?_)
  · obtain rfl := Option.some.inj h
    refine r_pick [4] rfl ?_
    exact hx0 _ _ rfl
  · refine r_iload 4 dX13_steal_67 rfl ?_
    refine r_iconst (v := -1) dX13_steal_69 (by decide) ?_
    refine r_icmp_ne 134 dX13_steal_70 (by decide) h (fun _ h => ?_) (fun _ h => ?_)
    · obtain rfl := Option.some.inj h
      refine r_pick [4] rfl ?_
      exact hx0 _ _ rfl
    · refine r_aload_n 0 dX13_steal_73 rfl ?_
      refine q_getR (e9 := (1, 0)) dX13_steal_74 fd_X13_98 t0 rfl h (fun r1 tr1 h => ?_)
      refine r_bipush (v := 125) dX13_steal_77 (by decide) ?_
      refine r_iload_n 1 dX13_steal_79 rfl ?_
      refine r_iadd dX13_steal_80 ?_
      refine r_iload_n 3 dX13_steal_81 rfl ?_
      refine r_iload 5 dX13_steal_82 rfl ?_
      refine r_isub dX13_steal_84 ?_
      refine q_iast dX13_steal_85 tr1 h (fun τ2 h => ?_)
      obtain ⟨b3, eb3, h⟩ := bd0_some h
      refine sX13_steal_L86 hdd x0 x1 x2 x3 x4 x5 t0 (K := fun b => b = b3) ?_ 1000 τ2 b3 eb3 rfl
      rintro τ4 rfl
      exact tX13_steal_b112 hdd τ4 x0 x1 x2 x3 x4 x5 t0 _ h hb hx0
theorem tX13_steal_b134 {l : Launch} {G : gg} {Γ : ly} {d : Nat} {Q : Option Value → ly → mm → Prop} (hdd : 6 ≤ d) (σ : mm) (x4 : Int32)    (r : (Int32 × mm)) (h : fX13_steal_b134 Γ.2 σ x4 = some r) (hQ : Q (some (.int r.1)) Γ r.2) : WP l G yX13_steal cX13_steal 6 (some .int) d 0 0 Q 0 0 134 [(4, .int x4)] [] Γ σ := by
  unfold fX13_steal_b134 at h
  refine r_iload 0 dX13_steal_134 rfl ?_
  obtain rfl := Option.some.inj h
  exact r_ireturn dX13_steal_136 rfl hQ (Nat.le_refl _) (Nat.le_refl _)
theorem kX13_steal {l : Launch} {G : gg} {Γ : ly} {σ : mm} (d : Nat) (hdd : 6 ≤ d) (x0 : Nat) (x1 : Int32) (x2 : Int32) (t0 : tyOK Γ (0, 12) x0) (r : (Int32 × mm)) (h : fX13_steal Γ.2 σ x0 x1 x2 = some r) : CT l G yX13_steal cX13_steal 6 (some .int) d 0 0 [.ref (G.2.1 x0), .int x1, .int x2] Γ σ (PP (some (.int r.1)) Γ r.2) := by
  refine CT.ofWP (by decide) (Nat.le_of_ble_eq_true rfl) ?_
  have hQ : PP (some (.int r.1)) Γ r.2 (some (.int r.1)) Γ r.2 := PP.self
  generalize PP (some (.int r.1)) Γ r.2 = Q at hQ ⊢
  show WP l G yX13_steal cX13_steal 6 (some .int) d 0 0 Q 0 0 0 [(0, .ref (G.2.1 x0)), (1, .int x1), (2, .int x2)] [] Γ σ
  unfold fX13_steal at h
  refine r_aload_n 0 dX13_steal_0 rfl ?_
  refine r_iconst (v := 0) dX13_steal_1 (by decide) ?_
  refine q_putI dX13_steal_2 fd_X13_1 t0 h (fun τ1 h => ?_)
  refine r_aload_n 0 dX13_steal_5 rfl ?_
  refine r_iload_n 1 dX13_steal_6 rfl ?_
  obtain ⟨v2, ev2, h⟩ := bd0_some h
  refine q_cVI [.int x1] dX13_steal_7 cv_X13_258 (ci := 12) rfl rfl t0 rfl rfl (Nat.le_of_ble_eq_true rfl) (by omega) (kX13_isGlass (d - 1) (by omega) x0 x1 t0 v2 ev2) ?_
  refine r_if_eq 39 dX13_steal_10 (by decide) h (fun _ h => ?_) (fun _ h => ?_)
  · refine r_pick [] rfl ?_
    exact tX13_steal_b39 hdd τ1  _ h hQ
  · refine r_aload_n 0 dX13_steal_13 rfl ?_
    refine r_iload_n 1 dX13_steal_14 rfl ?_
    obtain ⟨v3, ev3, h⟩ := bd0_some h
    refine q_cVI [.int x1] dX13_steal_15 cv_X13_261 (ci := 12) rfl rfl t0 rfl rfl (Nat.le_of_ble_eq_true rfl) (by omega) (kX13_isLapsed (d - 1) (by omega) x0 x1 t0 v3 ev3) ?_
    refine r_if_ne 39 dX13_steal_18 (by decide) h (fun _ h => ?_) (fun _ h => ?_)
    · refine r_pick [] rfl ?_
      exact tX13_steal_b39 hdd τ1  _ h hQ
    · refine r_iload_n 2 dX13_steal_21 rfl ?_
      refine r_aload_n 0 dX13_steal_22 rfl ?_
      refine q_getR (e9 := (1, 0)) dX13_steal_23 fd_X13_98 t0 rfl h (fun r4 tr4 h => ?_)
      refine r_bipush (v := 102) dX13_steal_26 (by decide) ?_
      refine q_iald dX13_steal_28 tr4 h (fun v5 h => ?_)
      refine r_icmp_le 39 dX13_steal_29 (by decide) h (fun _ h => ?_) (fun _ h => ?_)
      · refine r_pick [] rfl ?_
        exact tX13_steal_b39 hdd τ1  _ h hQ
      · refine r_iload_n 2 dX13_steal_32 rfl ?_
        refine r_sipush (v := 600) dX13_steal_33 (by decide) ?_
        refine r_icmp_le 41 dX13_steal_36 (by decide) h (fun _ h => ?_) (fun _ h => ?_)
        · refine r_aload_n 0 dX13_steal_41 rfl ?_
          obtain ⟨τ6, eτ6, h⟩ := bd0_some h
          refine q_cVV [] dX13_steal_42 cv_X13_318 (ci := 12) rfl rfl t0 rfl rfl (Nat.le_of_ble_eq_true rfl) (by omega) (kX13_layAside (d - 1) (by omega) x0 t0 τ6 eτ6) ?_
          refine r_aload_n 0 dX13_steal_45 rfl ?_
          refine q_getR (e9 := (1, 0)) dX13_steal_46 fd_X13_98 t0 rfl h (fun r7 tr7 h => ?_)
          refine r_bipush (v := 125) dX13_steal_49 (by decide) ?_
          refine r_iload_n 1 dX13_steal_51 rfl ?_
          refine r_iadd dX13_steal_52 ?_
          refine q_iald dX13_steal_53 tr7 h (fun v8 h => ?_)
          refine r_istore_n (lv' := [(3, .int v8), (0, .ref (G.2.1 x0)), (1, .int x1), (2, .int x2)]) dX13_steal_54 (by decide) rfl ?_
          refine r_iconst (v := -1) dX13_steal_55 (by decide) ?_
          refine r_istore (lv' := [(4, .int (-1 : Int32)), (3, .int v8), (0, .ref (G.2.1 x0)), (1, .int x1), (2, .int x2)]) dX13_steal_56 (by decide) rfl ?_
          refine r_iconst (v := 0) dX13_steal_58 (by decide) ?_
          refine r_istore (lv' := [(5, .int (0 : Int32)), (4, .int (-1 : Int32)), (3, .int v8), (0, .ref (G.2.1 x0)), (1, .int x1), (2, .int x2)]) dX13_steal_59 (by decide) rfl ?_
          obtain ⟨b9, eb9, h⟩ := bd0_some h
          refine r_pick [3, 4, 5, 2, 1, 0] rfl ?_
          refine sX13_steal_L61 hdd x0 x1 x2 v8 t0 (K := fun b => b = b9) ?_ 1000 ((-1 : Int32), (0 : Int32), τ6) b9 eb9 rfl
          rintro v10 τ11 rfl
          have h := un2_some h
          exact tX13_steal_b134 hdd τ11 v10  _ h hQ
        · refine r_pick [] rfl ?_
          exact tX13_steal_b39 hdd τ1  _ h hQ
theorem tX13_law_b43 {l : Launch} {G : gg} {Γ : ly} {d : Nat} {Q : Option Value → ly → mm → Prop} (hdd : 7 ≤ d) (σ : mm)     (r : (Int32 × mm)) (h : fX13_law_b43 Γ.2 σ  = some r) (hQ : Q (some (.int r.1)) Γ r.2) : WP l G yX13_law cX13_law 6 (some .int) d 0 0 Q 0 0 43 [] [] Γ σ := by
  unfold fX13_law_b43 at h
  refine r_iconst (v := -1) dX13_law_43 (by decide) ?_
  obtain rfl := Option.some.inj h
  exact r_ireturn dX13_law_44 rfl hQ (Nat.le_refl _) (Nat.le_refl _)
theorem tX13_law_b105 {l : Launch} {G : gg} {Γ : ly} {d : Nat} {Q : Option Value → ly → mm → Prop} (hdd : 7 ≤ d) (σ : mm) (x0 : Nat) (x1 : Int32) (x2 : Int32) (x3 : Int32) (x4 : Int32) (x5 : Int32)  (t0 : tyOK Γ (0, 12) x0)  (r : ((Int32 × Int32 × mm) ⊕ (Int32 × mm))) (h : fX13_law_b105 Γ.2 σ x0 x1 x2 x3 x4 x5 = some r) (hb : ∀ (x4 : Int32) (x5 : Int32) (σ9 : mm), r = .inl (x4, x5, σ9) → WP l G yX13_law cX13_law 6 (some .int) d 0 0 Q 0 0 62 [(0, .ref (G.2.1 x0)), (1, .int x1), (2, .int x2), (3, .int x3), (4, .int x4), (5, .int x5)] [] Γ σ9) (hx0 : ∀ (x4 : Int32) (σ9 : mm), r = .inr (x4, σ9) → WP l G yX13_law cX13_law 6 (some .int) d 0 0 Q 0 0 115 [(0, .ref (G.2.1 x0)), (3, .int x3), (4, .int x4)] [] Γ σ9) : WP l G yX13_law cX13_law 6 (some .int) d 0 0 Q 0 0 105 [(0, .ref (G.2.1 x0)), (1, .int x1), (2, .int x2), (3, .int x3), (4, .int x4), (5, .int x5)] [] Γ σ := by
  unfold fX13_law_b105 at h
  refine r_aload_n 0 dX13_law_105 rfl ?_
  obtain ⟨τ1, eτ1, h⟩ := bd0_some h
  refine q_cVV [] dX13_law_106 cv_X13_321 (ci := 12) rfl rfl t0 rfl rfl (Nat.le_of_ble_eq_true rfl) (by omega) (kX13_takeBack (d - 1) (by omega) x0 t0 τ1 eτ1) ?_
  refine q_iinc (v := 1) 5 (fun v2 => [(5, .int v2), (0, .ref (G.2.1 x0)), (1, .int x1), (2, .int x2), (3, .int x3), (4, .int x4)]) dX13_law_109 rfl (by decide) (by decide) (fun _ => rfl) h (fun v2 h => ?_)
  refine r_goto 62 dX13_law_112 (by decide) ?_
  obtain rfl := Option.some.inj h
  refine r_pick [1, 2, 3, 4, 5, 0] rfl ?_
  exact hb _ _ _ rfl
theorem sX13_law_L62 {l : Launch} {G : gg} {Γ : ly} {d : Nat} {Q : Option Value → ly → mm → Prop} (hdd : 7 ≤ d) (x0 : Nat) (x1 : Int32) (x2 : Int32) (x3 : Int32) (t0 : tyOK Γ (0, 12) x0) {K : (Int32 × mm) → Prop} (kx0 : ∀ (x4 : Int32) (σ9 : mm), K (x4, σ9) → WP l G yX13_law cX13_law 6 (some .int) d 0 0 Q 0 0 115 [(0, .ref (G.2.1 x0)), (3, .int x3), (4, .int x4)] [] Γ σ9) : ∀ (N : Nat) (s : (Int32 × Int32 × mm)) (b : (Int32 × mm)), loopN (fX13_law_L62 Γ.2 x0 x1 x2 x3) N s = some b → K b → WP l G yX13_law cX13_law 6 (some .int) d 0 0 Q 0 0 62 [(0, .ref (G.2.1 x0)), (1, .int x1), (2, .int x2), (3, .int x3), (4, .int s.1), (5, .int s.2.1)] [] Γ s.2.2 := by
  refine r_loop (f := fX13_law_L62 Γ.2 x0 x1 x2 x3) (hlv := fun s => [(0, .ref (G.2.1 x0)), (1, .int x1), (2, .int x2), (3, .int x3), (4, .int s.1), (5, .int s.2.1)]) (hsg := fun s => s.2.2) ?_
  rintro ⟨x4, x5, σ⟩ r h hb hx
  have hb : ∀ (x4 : Int32) (x5 : Int32) (σ : mm), r = .inl (x4, x5, σ) → WP l G yX13_law cX13_law 6 (some .int) d 0 0 Q 0 0 62 [(0, .ref (G.2.1 x0)), (1, .int x1), (2, .int x2), (3, .int x3), (4, .int x4), (5, .int x5)] [] Γ σ := fun x4 x5 σ e => hb (x4, x5, σ) e
  have hx0 : ∀ (x4 : Int32) (σ9 : mm), r = .inr (x4, σ9) → WP l G yX13_law cX13_law 6 (some .int) d 0 0 Q 0 0 115 [(0, .ref (G.2.1 x0)), (3, .int x3), (4, .int x4)] [] Γ σ9 := fun x4 σ9 e => kx0 x4 σ9 (hx _ e)
  unfold fX13_law_L62 at h
  have h := un3_some h
  show WP l G yX13_law cX13_law 6 (some .int) d 0 0 Q 0 0 62 [(0, .ref (G.2.1 x0)), (1, .int x1), (2, .int x2), (3, .int x3), (4, .int x4), (5, .int x5)] [] Γ σ
  refine r_iload 5 dX13_law_62 rfl ?_
  refine r_bipush (v := 9) dX13_law_64 (by decide) ?_
  refine r_icmp_gt 115 dX13_law_66 (by decide) h (fun _ h => ?_) (fun _ h => ?_)
  · obtain rfl := Option.some.inj h
    refine r_pick [0, 3, 4] rfl ?_
    exact hx0 _ _ rfl
  · refine r_iload 4 dX13_law_69 rfl ?_
    refine r_iconst (v := -1) dX13_law_71 (by decide) ?_
    refine r_icmp_ne 115 dX13_law_72 (by decide) h (fun _ h => ?_) (fun _ h => ?_)
    · obtain rfl := Option.some.inj h
      refine r_pick [0, 3, 4] rfl ?_
      exact hx0 _ _ rfl
    · refine r_aload_n 0 dX13_law_75 rfl ?_
      refine q_getR (e9 := (1, 0)) dX13_law_76 fd_X13_98 t0 rfl h (fun r1 tr1 h => ?_)
      refine r_iconst (v := 3) dX13_law_79 (by decide) ?_
      refine r_iload 5 dX13_law_80 rfl ?_
      refine q_iast dX13_law_82 tr1 h (fun τ2 h => ?_)
      refine r_aload_n 0 dX13_law_83 rfl ?_
      refine r_iload_n 2 dX13_law_84 rfl ?_
      obtain ⟨v3, τ4, ev3, h⟩ := bd2_some h
      refine q_cVI [.int x2] dX13_law_85 cv_X13_309 (ci := 12) rfl rfl t0 rfl rfl (Nat.le_of_ble_eq_true rfl) (by omega) (kX13_passHours (d - 1) (by omega) x0 x2 t0 (v3, τ4) ev3) ?_
      refine r_pop dX13_law_88 rfl ?_
      refine r_iload_n 1 dX13_law_89 rfl ?_
      refine r_aload_n 0 dX13_law_90 rfl ?_
      refine q_getR (e9 := (1, 0)) dX13_law_91 fd_X13_98 t0 rfl h (fun r5 tr5 h => ?_)
      refine r_bipush (v := 104) dX13_law_94 (by decide) ?_
      refine q_iald dX13_law_96 tr5 h (fun v6 h => ?_)
      refine r_iand dX13_law_97 ?_
      refine r_if_ne 105 dX13_law_98 (by decide) h (fun _ h => ?_) (fun _ h => ?_)
      · exact tX13_law_b105 hdd τ4 x0 x1 x2 x3 x4 x5 t0 _ h hb hx0
      · refine r_iload 5 dX13_law_101 rfl ?_
        refine r_istore (lv' := [(4, .int x5), (0, .ref (G.2.1 x0)), (1, .int x1), (2, .int x2), (3, .int x3), (5, .int x5)]) dX13_law_103 (by decide) rfl ?_
        refine r_pick [1, 2, 3, 4, 0, 5] rfl ?_
        exact tX13_law_b105 hdd τ4 x0 x1 x2 x3 x5 x5 t0 _ h hb hx0
theorem tX13_law_b115 {l : Launch} {G : gg} {Γ : ly} {d : Nat} {Q : Option Value → ly → mm → Prop} (hdd : 7 ≤ d) (σ : mm) (x0 : Nat) (x3 : Int32) (x4 : Int32)  (t0 : tyOK Γ (0, 12) x0)  (r : (Int32 × mm)) (h : fX13_law_b115 Γ.2 σ x0 x3 x4 = some r) (hQ : Q (some (.int r.1)) Γ r.2) : WP l G yX13_law cX13_law 6 (some .int) d 0 0 Q 0 0 115 [(0, .ref (G.2.1 x0)), (3, .int x3), (4, .int x4)] [] Γ σ := by
  unfold fX13_law_b115 at h
  refine r_aload_n 0 dX13_law_115 rfl ?_
  refine q_getR (e9 := (1, 0)) dX13_law_116 fd_X13_98 t0 rfl h (fun r1 tr1 h => ?_)
  refine r_iconst (v := 3) dX13_law_119 (by decide) ?_
  refine r_iload_n 1 dX13_law_120 rfl ?_
  refine q_iast dX13_law_121 tr1 h (fun τ2 h => ?_)
  refine r_iload 2 dX13_law_122 rfl ?_
  obtain rfl := Option.some.inj h
  exact r_ireturn dX13_law_124 rfl hQ (Nat.le_refl _) (Nat.le_refl _)
theorem kX13_law {l : Launch} {G : gg} {Γ : ly} {σ : mm} (d : Nat) (hdd : 7 ≤ d) (x0 : Nat) (x1 : Int32) (x2 : Int32) (t0 : tyOK Γ (0, 12) x0) (r : (Int32 × mm)) (h : fX13_law Γ.2 σ x0 x1 x2 = some r) : CT l G yX13_law cX13_law 6 (some .int) d 0 0 [.ref (G.2.1 x0), .int x1, .int x2] Γ σ (PP (some (.int r.1)) Γ r.2) := by
  refine CT.ofWP (by decide) (Nat.le_of_ble_eq_true rfl) ?_
  have hQ : PP (some (.int r.1)) Γ r.2 (some (.int r.1)) Γ r.2 := PP.self
  generalize PP (some (.int r.1)) Γ r.2 = Q at hQ ⊢
  show WP l G yX13_law cX13_law 6 (some .int) d 0 0 Q 0 0 0 [(0, .ref (G.2.1 x0)), (1, .int x1), (2, .int x2)] [] Γ σ
  unfold fX13_law at h
  refine r_aload_n 0 dX13_law_0 rfl ?_
  refine r_iconst (v := 0) dX13_law_1 (by decide) ?_
  refine q_putI dX13_law_2 fd_X13_1 t0 h (fun τ1 h => ?_)
  refine r_iload_n 1 dX13_law_5 rfl ?_
  refine r_if_lt 43 dX13_law_6 (by decide) h (fun _ h => ?_) (fun _ h => ?_)
  · refine r_pick [] rfl ?_
    exact tX13_law_b43 hdd τ1  _ h hQ
  · refine r_iload_n 1 dX13_law_9 rfl ?_
    refine r_iconst (v := 1) dX13_law_10 (by decide) ?_
    refine r_aload_n 0 dX13_law_11 rfl ?_
    refine q_getR (e9 := (1, 0)) dX13_law_12 fd_X13_98 t0 rfl h (fun r2 tr2 h => ?_)
    refine r_iconst (v := 1) dX13_law_15 (by decide) ?_
    refine q_iald dX13_law_16 tr2 h (fun v3 h => ?_)
    refine r_ishl dX13_law_17 ?_
    refine r_icmp_ge 43 dX13_law_18 (by decide) h (fun _ h => ?_) (fun _ h => ?_)
    · refine r_pick [] rfl ?_
      exact tX13_law_b43 hdd τ1  _ h hQ
    · refine r_iload_n 1 dX13_law_21 rfl ?_
      refine r_aload_n 0 dX13_law_22 rfl ?_
      refine q_getR (e9 := (1, 0)) dX13_law_23 fd_X13_98 t0 rfl h (fun r4 tr4 h => ?_)
      refine r_bipush (v := 104) dX13_law_26 (by decide) ?_
      refine q_iald dX13_law_28 tr4 h (fun v5 h => ?_)
      refine r_iand dX13_law_29 ?_
      refine r_if_ne 43 dX13_law_30 (by decide) h (fun _ h => ?_) (fun _ h => ?_)
      · refine r_pick [] rfl ?_
        exact tX13_law_b43 hdd τ1  _ h hQ
      · refine r_iload_n 2 dX13_law_33 rfl ?_
        refine r_iconst (v := 1) dX13_law_34 (by decide) ?_
        refine r_bipush (v := 60) dX13_law_35 (by decide) ?_
        obtain ⟨v6, ev6, h⟩ := bd0_some h
        refine q_cSI [.int x2, .int (1 : Int32), .int (60 : Int32)] dX13_law_37 cs_X13_75 rfl rfl (Nat.le_of_ble_eq_true rfl) (by omega) (kX13_isIn (d - 1) (by omega) x2 (1 : Int32) (60 : Int32)  v6 ev6) ?_
        refine r_if_ne 45 dX13_law_40 (by decide) h (fun _ h => ?_) (fun _ h => ?_)
        · refine r_aload_n 0 dX13_law_45 rfl ?_
          refine q_getR (e9 := (1, 0)) dX13_law_46 fd_X13_98 t0 rfl h (fun r7 tr7 h => ?_)
          refine r_iconst (v := 3) dX13_law_49 (by decide) ?_
          refine q_iald dX13_law_50 tr7 h (fun v8 h => ?_)
          refine r_istore_n (lv' := [(3, .int v8), (0, .ref (G.2.1 x0)), (1, .int x1), (2, .int x2)]) dX13_law_51 (by decide) rfl ?_
          refine r_iconst (v := -1) dX13_law_52 (by decide) ?_
          refine r_istore (lv' := [(4, .int (-1 : Int32)), (3, .int v8), (0, .ref (G.2.1 x0)), (1, .int x1), (2, .int x2)]) dX13_law_53 (by decide) rfl ?_
          refine r_aload_n 2 dX13_law_55 rfl ?_
          obtain ⟨τ9, eτ9, h⟩ := bd0_some h
          refine q_cVV [] dX13_law_56 cv_X13_318 (ci := 12) rfl rfl t0 rfl rfl (Nat.le_of_ble_eq_true rfl) (by omega) (kX13_layAside (d - 1) (by omega) x0 t0 τ9 eτ9) ?_
          refine r_iconst (v := 1) dX13_law_59 (by decide) ?_
          refine r_istore (lv' := [(5, .int (1 : Int32)), (4, .int (-1 : Int32)), (3, .int v8), (0, .ref (G.2.1 x0)), (1, .int x1), (2, .int x2)]) dX13_law_60 (by decide) rfl ?_
          obtain ⟨b10, eb10, h⟩ := bd0_some h
          refine r_pick [3, 4, 5, 2, 1, 0] rfl ?_
          refine sX13_law_L62 hdd x0 x1 x2 v8 t0 (K := fun b => b = b10) ?_ 1000 ((-1 : Int32), (1 : Int32), τ9) b10 eb10 rfl
          rintro v11 τ12 rfl
          have h := un2_some h
          exact tX13_law_b115 hdd τ12 x0 v8 v11 t0 _ h hQ
        · refine r_pick [] rfl ?_
          exact tX13_law_b43 hdd τ1  _ h hQ
