/-! the walks, 13 -/
theorem tX12_said_b56 {l : Launch} {G : gg} {Γ : ly} {d : Nat} {Q : Option Value → ly → mm → Prop} (hdd : 4 ≤ d) (σ : mm) (x0 : Nat) (x1 : Int32) (x2 : Int32) (x3 : Int32)  (t0 : tyOK Γ (0, 11) x0)  (r : ((Int32 × Int32) ⊕ (Int32 ⊕ Int32))) (h : fX12_said_b56 Γ.2 σ x0 x1 x2 x3 = some r) (hb : ∀ (x2 : Int32) (x3 : Int32), r = .inl (x2, x3) → WP l G yX12_said cX12_said 4 (some .int) d 0 0 Q 0 0 16 [(0, .ref (G.2.1 x0)), (1, .int x1), (2, .int x2), (3, .int x3)] [] Γ σ) (hx0 : ∀ (x3 : Int32), r = .inr (.inl x3) → WP l G yX12_said cX12_said 4 (some .int) d 0 0 Q 0 0 51 [(3, .int x3)] [] Γ σ) (hx1 : ∀ (x2 : Int32), r = .inr (.inr x2) → WP l G yX12_said cX12_said 4 (some .int) d 0 0 Q 0 0 62 [(1, .int x1), (2, .int x2)] [] Γ σ) : WP l G yX12_said cX12_said 4 (some .int) d 0 0 Q 0 0 56 [(0, .ref (G.2.1 x0)), (1, .int x1), (2, .int x2), (3, .int x3)] [] Γ σ := by
  unfold fX12_said_b56 at h
  refine q_iinc (v := 1) 3 (fun v1 => [(3, .int v1), (0, .ref (G.2.1 x0)), (1, .int x1), (2, .int x2)]) dX12_said_56 rfl (by decide) (by decide) (fun _ => rfl) h (fun v1 h => ?_)
  refine r_goto 16 dX12_said_59 (by decide) ?_
  obtain rfl := Option.some.inj h
  refine r_pick [1, 2, 3, 0] rfl ?_
  exact hb _ _ rfl
theorem sX12_said_L16 {l : Launch} {G : gg} {Γ : ly} {d : Nat} {Q : Option Value → ly → mm → Prop} (hdd : 4 ≤ d) (σ : mm) (x0 : Nat) (x1 : Int32) (t0 : tyOK Γ (0, 11) x0) {K : (Int32 ⊕ Int32) → Prop} (kx0 : ∀ (x3 : Int32), K (.inl x3) → WP l G yX12_said cX12_said 4 (some .int) d 0 0 Q 0 0 51 [(3, .int x3)] [] Γ σ) (kx1 : ∀ (x2 : Int32), K (.inr x2) → WP l G yX12_said cX12_said 4 (some .int) d 0 0 Q 0 0 62 [(1, .int x1), (2, .int x2)] [] Γ σ) : ∀ (N : Nat) (s : (Int32 × Int32)) (b : (Int32 ⊕ Int32)), loopN (fX12_said_L16 Γ.2 σ x0 x1) N s = some b → K b → WP l G yX12_said cX12_said 4 (some .int) d 0 0 Q 0 0 16 [(0, .ref (G.2.1 x0)), (1, .int x1), (2, .int s.1), (3, .int s.2)] [] Γ σ := by
  refine r_loop (f := fX12_said_L16 Γ.2 σ x0 x1) (hlv := fun s => [(0, .ref (G.2.1 x0)), (1, .int x1), (2, .int s.1), (3, .int s.2)]) (hsg := fun s => σ) ?_
  rintro ⟨x2, x3⟩ r h hb hx
  have hb : ∀ (x2 : Int32) (x3 : Int32), r = .inl (x2, x3) → WP l G yX12_said cX12_said 4 (some .int) d 0 0 Q 0 0 16 [(0, .ref (G.2.1 x0)), (1, .int x1), (2, .int x2), (3, .int x3)] [] Γ σ := fun x2 x3 e => hb (x2, x3) e
  have hx0 : ∀ (x3 : Int32), r = .inr (.inl x3) → WP l G yX12_said cX12_said 4 (some .int) d 0 0 Q 0 0 51 [(3, .int x3)] [] Γ σ := fun x3 e => kx0 x3 (hx _ e)
  have hx1 : ∀ (x2 : Int32), r = .inr (.inr x2) → WP l G yX12_said cX12_said 4 (some .int) d 0 0 Q 0 0 62 [(1, .int x1), (2, .int x2)] [] Γ σ := fun x2 e => kx1 x2 (hx _ e)
  unfold fX12_said_L16 at h
  have h := un2_some h
  show WP l G yX12_said cX12_said 4 (some .int) d 0 0 Q 0 0 16 [(0, .ref (G.2.1 x0)), (1, .int x1), (2, .int x2), (3, .int x3)] [] Γ σ
  refine r_iload_n 3 dX12_said_16 rfl ?_
  refine r_aload_n 0 dX12_said_17 rfl ?_
  refine q_getR (e9 := (0, 4)) dX12_said_18 fd_X12_19 t0 rfl h (fun r1 tr1 h => ?_)
  refine r_getI dX12_said_21 fd_X12_238 tr1 ?_
  refine r_icmp_ge 62 dX12_said_24 (by decide) h (fun _ h => ?_) (fun _ h => ?_)
  · obtain rfl := Option.some.inj h
    refine r_pick [1, 2] rfl ?_
    exact hx1 _ rfl
  · refine r_aload_n 0 dX12_said_27 rfl ?_
    refine q_getR (e9 := (0, 7)) dX12_said_28 fd_X12_82 t0 rfl h (fun r2 tr2 h => ?_)
    refine r_aload_n 0 dX12_said_31 rfl ?_
    refine q_getR (e9 := (0, 3)) dX12_said_32 fd_X12_40 t0 rfl h (fun r3 tr3 h => ?_)
    refine r_aload_n 0 dX12_said_35 rfl ?_
    refine q_getR (e9 := (0, 4)) dX12_said_36 fd_X12_19 t0 rfl h (fun r4 tr4 h => ?_)
    refine r_iload_n 3 dX12_said_39 rfl ?_
    obtain ⟨v5, ev5, h⟩ := bd0_some h
    refine q_cVI [.ref (G.2.1 r3), .ref (G.2.1 r4), .int x3] dX12_said_40 cv_X12_437 (ci := 7) rfl rfl tr2 rfl rfl (Nat.le_of_ble_eq_true rfl) (by omega) (kX7_holds (d - 1) (by omega) r2 r3 r4 x3 tr2 tr3 tr4 v5 ev5) ?_
    refine r_if_eq 56 dX12_said_43 (by decide) h (fun _ h => ?_) (fun _ h => ?_)
    · exact tX12_said_b56 hdd σ x0 x1 x2 x3 t0 _ h hb hx0 hx1
    · refine r_iload_n 2 dX12_said_46 rfl ?_
      refine r_iload_n 1 dX12_said_47 rfl ?_
      refine r_icmp_ne 53 dX12_said_48 (by decide) h (fun _ h => ?_) (fun _ h => ?_)
      · refine q_iinc (v := 1) 2 (fun v6 => [(2, .int v6), (0, .ref (G.2.1 x0)), (1, .int x1), (3, .int x3)]) dX12_said_53 rfl (by decide) (by decide) (fun _ => rfl) h (fun v6 h => ?_)
        refine r_pick [1, 2, 0, 3] rfl ?_
        exact tX12_said_b56 hdd σ x0 x1 v6 x3 t0 _ h hb hx0 hx1
      · obtain rfl := Option.some.inj h
        refine r_pick [3] rfl ?_
        exact hx0 _ rfl
theorem tX12_said_b72 {l : Launch} {G : gg} {Γ : ly} {d : Nat} {Q : Option Value → ly → mm → Prop} (hdd : 4 ≤ d) (σ : mm)  (s0 : Int32)   (r : Int32) (h : fX12_said_b72 Γ.2 σ s0 = some r) (hQ : Q (some (.int r)) Γ σ) : WP l G yX12_said cX12_said 4 (some .int) d 0 0 Q 0 0 72 [] [.int s0] Γ σ := by
  unfold fX12_said_b72 at h
  obtain rfl := Option.some.inj h
  exact r_ireturn dX12_said_72 rfl hQ (Nat.le_refl _) (Nat.le_refl _)
theorem kX12_said {l : Launch} {G : gg} {Γ : ly} {σ : mm} (d : Nat) (hdd : 4 ≤ d) (x0 : Nat) (x1 : Int32) (t0 : tyOK Γ (0, 11) x0) (r : Int32) (h : fX12_said Γ.2 σ x0 x1 = some r) : CT l G yX12_said cX12_said 4 (some .int) d 0 0 [.ref (G.2.1 x0), .int x1] Γ σ (PP (some (.int r)) Γ σ) := by
  refine CT.ofWP (by decide) (Nat.le_of_ble_eq_true rfl) ?_
  have hQ : PP (some (.int r)) Γ σ (some (.int r)) Γ σ := PP.self
  generalize PP (some (.int r)) Γ σ = Q at hQ ⊢
  show WP l G yX12_said cX12_said 4 (some .int) d 0 0 Q 0 0 0 [(0, .ref (G.2.1 x0)), (1, .int x1)] [] Γ σ
  unfold fX12_said at h
  refine r_aload_n 0 dX12_said_0 rfl ?_
  refine q_getR (e9 := (0, 7)) dX12_said_1 fd_X12_82 t0 rfl h (fun r1 tr1 h => ?_)
  refine r_getI dX12_said_4 fd_X12_434 tr1 ?_
  refine r_if_ne 12 dX12_said_7 (by decide) h (fun _ h => ?_) (fun _ h => ?_)
  · refine r_iconst (v := 0) dX12_said_12 (by decide) ?_
    refine r_istore_n (lv' := [(2, .int (0 : Int32)), (0, .ref (G.2.1 x0)), (1, .int x1)]) dX12_said_13 (by decide) rfl ?_
    refine r_iconst (v := 0) dX12_said_14 (by decide) ?_
    refine r_istore_n (lv' := [(3, .int (0 : Int32)), (2, .int (0 : Int32)), (0, .ref (G.2.1 x0)), (1, .int x1)]) dX12_said_15 (by decide) rfl ?_
    obtain ⟨b2, eb2, h⟩ := bd0_some h
    refine r_pick [2, 3, 1, 0] rfl ?_
    refine sX12_said_L16 hdd σ x0 x1 t0 (K := fun b => b = b2) ?_ ?_ 1000 ((0 : Int32), (0 : Int32)) b2 eb2 rfl
    · rintro v3 rfl
      have h := cs2_0 h
      refine r_iload_n 0 dX12_said_51 rfl ?_
      obtain rfl := Option.some.inj h
      exact r_ireturn dX12_said_52 rfl hQ (Nat.le_refl _) (Nat.le_refl _)
    · rintro v4 rfl
      have h := cs2_1 h
      refine r_iload_n 0 dX12_said_62 rfl ?_
      refine r_iconst (v := -1) dX12_said_63 (by decide) ?_
      refine r_icmp_ne 71 dX12_said_64 (by decide) h (fun _ h => ?_) (fun _ h => ?_)
      · refine r_iconst (v := -1) dX12_said_71 (by decide) ?_
        refine r_pick [] rfl ?_
        exact tX12_said_b72 hdd σ (-1 : Int32)  _ h hQ
      · refine r_iload_n 1 dX12_said_67 rfl ?_
        refine r_goto 72 dX12_said_68 (by decide) ?_
        refine r_pick [] rfl ?_
        exact tX12_said_b72 hdd σ v4  _ h hQ
  · refine r_iconst (v := -1) dX12_said_10 (by decide) ?_
    obtain rfl := Option.some.inj h
    exact r_ireturn dX12_said_11 rfl hQ (Nat.le_refl _) (Nat.le_refl _)
theorem tX12_image_b9 {l : Launch} {G : gg} {Γ : ly} {d : Nat} {Q : Option Value → ly → mm → Prop} (hdd : 3 ≤ d) (σ : mm)     (r : (Int32 × mm)) (h : fX12_image_b9 Γ.2 σ  = some r) (hQ : Q (some (.int r.1)) Γ r.2) : WP l G yX12_image cX12_image 2 (some .boolean) d 0 0 Q 0 0 9 [] [] Γ σ := by
  unfold fX12_image_b9 at h
  refine r_iconst (v := 0) dX12_image_9 (by decide) ?_
  obtain rfl := Option.some.inj h
  exact r_zreturn dX12_image_10 rfl (by decide) hQ (Nat.le_refl _) (Nat.le_refl _)
theorem kX12_image {l : Launch} {G : gg} {Γ : ly} {σ : mm} (d : Nat) (hdd : 3 ≤ d) (x0 : Nat) (x1 : Int32) (t0 : tyOK Γ (0, 11) x0) (r : (Int32 × mm)) (h : fX12_image Γ.2 σ x0 x1 = some r) : CT l G yX12_image cX12_image 2 (some .boolean) d 0 0 [.ref (G.2.1 x0), .int x1] Γ σ (PP (some (.int r.1)) Γ r.2) := by
  refine CT.ofWP (by decide) (Nat.le_of_ble_eq_true rfl) ?_
  have hQ : PP (some (.int r.1)) Γ r.2 (some (.int r.1)) Γ r.2 := PP.self
  generalize PP (some (.int r.1)) Γ r.2 = Q at hQ ⊢
  show WP l G yX12_image cX12_image 2 (some .boolean) d 0 0 Q 0 0 0 [(0, .ref (G.2.1 x0)), (1, .int x1)] [] Γ σ
  unfold fX12_image at h
  refine r_iload_n 1 dX12_image_0 rfl ?_
  refine r_if_lt 9 dX12_image_1 (by decide) h (fun _ h => ?_) (fun _ h => ?_)
  · refine r_pick [] rfl ?_
    exact tX12_image_b9 hdd σ  _ h hQ
  · refine r_iload_n 1 dX12_image_4 rfl ?_
    refine r_iconst (v := 2) dX12_image_5 (by decide) ?_
    refine r_icmp_lt 11 dX12_image_6 (by decide) h (fun _ h => ?_) (fun _ h => ?_)
    · refine r_aload_n 0 dX12_image_11 rfl ?_
      refine q_getR (e9 := (6, 0)) dX12_image_12 fd_X12_89 t0 rfl h (fun r1 tr1 h => ?_)
      refine r_iload_n 1 dX12_image_15 rfl ?_
      refine q_aald6 dX12_image_16 tr1 h (fun r2 tr2 h => ?_)
      refine r_aload_n 0 dX12_image_17 rfl ?_
      refine q_getR (e9 := (0, 4)) dX12_image_18 fd_X12_19 t0 rfl h (fun r3 tr3 h => ?_)
      obtain ⟨τ4, eτ4, h⟩ := bd0_some h
      refine q_cVV [.ref (G.2.1 r3)] dX12_image_21 cv_X12_134 (ci := 4) rfl rfl tr2 rfl rfl (Nat.le_of_ble_eq_true rfl) (by omega) (kX4_copyFrom (d - 1) (by omega) r2 r3 tr2 tr3 τ4 eτ4) ?_
      refine r_aload_n 0 dX12_image_24 rfl ?_
      refine q_getR (e9 := (5, 0)) dX12_image_25 fd_X12_93 t0 rfl h (fun r5 tr5 h => ?_)
      refine r_iload_n 1 dX12_image_28 rfl ?_
      refine q_aald5 dX12_image_29 tr5 h (fun r6 tr6 h => ?_)
      refine r_aload_n 0 dX12_image_30 rfl ?_
      refine q_getR (e9 := (0, 3)) dX12_image_31 fd_X12_40 t0 rfl h (fun r7 tr7 h => ?_)
      obtain ⟨τ8, eτ8, h⟩ := bd0_some h
      refine q_cVV [.ref (G.2.1 r7)] dX12_image_34 cv_X12_412 (ci := 3) rfl rfl tr6 rfl rfl (Nat.le_of_ble_eq_true rfl) (by omega) (kX3_copyFrom (d - 1) (by omega) r6 r7 tr6 tr7 τ8 eτ8) ?_
      refine r_aload_n 0 dX12_image_37 rfl ?_
      refine q_getR (e9 := (7, 0)) dX12_image_38 fd_X12_97 t0 rfl h (fun r9 tr9 h => ?_)
      refine r_iload_n 1 dX12_image_41 rfl ?_
      refine q_aald7 dX12_image_42 tr9 h (fun r10 tr10 h => ?_)
      refine r_aload_n 0 dX12_image_43 rfl ?_
      refine q_getR (e9 := (0, 7)) dX12_image_44 fd_X12_82 t0 rfl h (fun r11 tr11 h => ?_)
      obtain ⟨τ12, eτ12, h⟩ := bd0_some h
      refine q_cVV [.ref (G.2.1 r11)] dX12_image_47 cv_X12_431 (ci := 7) rfl rfl tr10 rfl rfl (Nat.le_of_ble_eq_true rfl) (by omega) (kX7_copyFrom (d - 1) (by omega) r10 r11 tr10 tr11 τ12 eτ12) ?_
      refine r_aload_n 0 dX12_image_50 rfl ?_
      refine q_getR (e9 := (3, 0)) dX12_image_51 fd_X12_101 t0 rfl h (fun r13 tr13 h => ?_)
      refine r_iload_n 1 dX12_image_54 rfl ?_
      refine r_iconst (v := 1) dX12_image_55 (by decide) ?_
      refine q_zast dX12_image_56 tr13 h (fun τ14 h => ?_)
      refine r_iconst (v := 1) dX12_image_57 (by decide) ?_
      obtain rfl := Option.some.inj h
      exact r_zreturn dX12_image_58 rfl (by decide) hQ (Nat.le_refl _) (Nat.le_refl _)
    · refine r_pick [] rfl ?_
      exact tX12_image_b9 hdd σ  _ h hQ
theorem tX12_restore_b18 {l : Launch} {G : gg} {Γ : ly} {d : Nat} {Q : Option Value → ly → mm → Prop} (hdd : 3 ≤ d) (σ : mm)     (r : (Int32 × mm)) (h : fX12_restore_b18 Γ.2 σ  = some r) (hQ : Q (some (.int r.1)) Γ r.2) : WP l G yX12_restore cX12_restore 2 (some .boolean) d 0 0 Q 0 0 18 [] [] Γ σ := by
  unfold fX12_restore_b18 at h
  refine r_iconst (v := 0) dX12_restore_18 (by decide) ?_
  obtain rfl := Option.some.inj h
  exact r_zreturn dX12_restore_19 rfl (by decide) hQ (Nat.le_refl _) (Nat.le_refl _)
theorem kX12_restore {l : Launch} {G : gg} {Γ : ly} {σ : mm} (d : Nat) (hdd : 3 ≤ d) (x0 : Nat) (x1 : Int32) (t0 : tyOK Γ (0, 11) x0) (r : (Int32 × mm)) (h : fX12_restore Γ.2 σ x0 x1 = some r) : CT l G yX12_restore cX12_restore 2 (some .boolean) d 0 0 [.ref (G.2.1 x0), .int x1] Γ σ (PP (some (.int r.1)) Γ r.2) := by
  refine CT.ofWP (by decide) (Nat.le_of_ble_eq_true rfl) ?_
  have hQ : PP (some (.int r.1)) Γ r.2 (some (.int r.1)) Γ r.2 := PP.self
  generalize PP (some (.int r.1)) Γ r.2 = Q at hQ ⊢
  show WP l G yX12_restore cX12_restore 2 (some .boolean) d 0 0 Q 0 0 0 [(0, .ref (G.2.1 x0)), (1, .int x1)] [] Γ σ
  unfold fX12_restore at h
  refine r_iload_n 1 dX12_restore_0 rfl ?_
  refine r_if_lt 18 dX12_restore_1 (by decide) h (fun _ h => ?_) (fun _ h => ?_)
  · refine r_pick [] rfl ?_
    exact tX12_restore_b18 hdd σ  _ h hQ
  · refine r_iload_n 1 dX12_restore_4 rfl ?_
    refine r_iconst (v := 2) dX12_restore_5 (by decide) ?_
    refine r_icmp_ge 18 dX12_restore_6 (by decide) h (fun _ h => ?_) (fun _ h => ?_)
    · refine r_pick [] rfl ?_
      exact tX12_restore_b18 hdd σ  _ h hQ
    · refine r_aload_n 0 dX12_restore_9 rfl ?_
      refine q_getR (e9 := (3, 0)) dX12_restore_10 fd_X12_101 t0 rfl h (fun r1 tr1 h => ?_)
      refine r_iload_n 1 dX12_restore_13 rfl ?_
      refine q_zald dX12_restore_14 tr1 h (fun v2 h => ?_)
      refine r_if_ne 20 dX12_restore_15 (by decide) h (fun _ h => ?_) (fun _ h => ?_)
      · refine r_aload_n 0 dX12_restore_20 rfl ?_
        refine q_getR (e9 := (0, 4)) dX12_restore_21 fd_X12_19 t0 rfl h (fun r3 tr3 h => ?_)
        refine r_aload_n 0 dX12_restore_24 rfl ?_
        refine q_getR (e9 := (6, 0)) dX12_restore_25 fd_X12_89 t0 rfl h (fun r4 tr4 h => ?_)
        refine r_iload_n 1 dX12_restore_28 rfl ?_
        refine q_aald6 dX12_restore_29 tr4 h (fun r5 tr5 h => ?_)
        obtain ⟨τ6, eτ6, h⟩ := bd0_some h
        refine q_cVV [.ref (G.2.1 r5)] dX12_restore_30 cv_X12_134 (ci := 4) rfl rfl tr3 rfl rfl (Nat.le_of_ble_eq_true rfl) (by omega) (kX4_copyFrom (d - 1) (by omega) r3 r5 tr3 tr5 τ6 eτ6) ?_
        refine r_aload_n 0 dX12_restore_33 rfl ?_
        refine q_getR (e9 := (0, 3)) dX12_restore_34 fd_X12_40 t0 rfl h (fun r7 tr7 h => ?_)
        refine r_aload_n 0 dX12_restore_37 rfl ?_
        refine q_getR (e9 := (5, 0)) dX12_restore_38 fd_X12_93 t0 rfl h (fun r8 tr8 h => ?_)
        refine r_iload_n 1 dX12_restore_41 rfl ?_
        refine q_aald5 dX12_restore_42 tr8 h (fun r9 tr9 h => ?_)
        obtain ⟨τ10, eτ10, h⟩ := bd0_some h
        refine q_cVV [.ref (G.2.1 r9)] dX12_restore_43 cv_X12_412 (ci := 3) rfl rfl tr7 rfl rfl (Nat.le_of_ble_eq_true rfl) (by omega) (kX3_copyFrom (d - 1) (by omega) r7 r9 tr7 tr9 τ10 eτ10) ?_
        refine r_aload_n 0 dX12_restore_46 rfl ?_
        refine q_getR (e9 := (0, 7)) dX12_restore_47 fd_X12_82 t0 rfl h (fun r11 tr11 h => ?_)
        refine r_aload_n 0 dX12_restore_50 rfl ?_
        refine q_getR (e9 := (7, 0)) dX12_restore_51 fd_X12_97 t0 rfl h (fun r12 tr12 h => ?_)
        refine r_iload_n 1 dX12_restore_54 rfl ?_
        refine q_aald7 dX12_restore_55 tr12 h (fun r13 tr13 h => ?_)
        obtain ⟨τ14, eτ14, h⟩ := bd0_some h
        refine q_cVV [.ref (G.2.1 r13)] dX12_restore_56 cv_X12_431 (ci := 7) rfl rfl tr11 rfl rfl (Nat.le_of_ble_eq_true rfl) (by omega) (kX7_copyFrom (d - 1) (by omega) r11 r13 tr11 tr13 τ14 eτ14) ?_
        refine r_aload_n 0 dX12_restore_59 rfl ?_
        refine q_getR (e9 := (0, 9)) dX12_restore_60 fd_X12_50 t0 rfl h (fun r15 tr15 h => ?_)
        obtain ⟨τ16, eτ16, h⟩ := bd0_some h
        refine q_cVV [] dX12_restore_63 cv_X12_143 (ci := 9) rfl rfl tr15 rfl rfl (Nat.le_of_ble_eq_true rfl) (by omega) (kX9_forget (d - 1) (by omega) r15 tr15 τ16 eτ16) ?_
        refine r_iconst (v := 1) dX12_restore_66 (by decide) ?_
        obtain rfl := Option.some.inj h
        exact r_zreturn dX12_restore_67 rfl (by decide) hQ (Nat.le_refl _) (Nat.le_refl _)
      · refine r_pick [] rfl ?_
        exact tX12_restore_b18 hdd σ  _ h hQ
