/-! the walks, 12 -/
theorem tX12_together_b21 {l : Launch} {G : gg} {Γ : ly} {d : Nat} {Q : Option Value → ly → mm → Prop} (hdd : 2 ≤ d) (σ : mm)     (r : Int32) (h : fX12_together_b21 Γ.2 σ  = some r) (hQ : Q (some (.int r)) Γ σ) : WP l G yX12_together cX12_together 6 (some .int) d 0 0 Q 0 0 21 [] [] Γ σ := by
  unfold fX12_together_b21 at h
  refine r_iconst (v := -1) dX12_together_21 (by decide) ?_
  obtain rfl := Option.some.inj h
  exact r_ireturn dX12_together_22 rfl hQ (Nat.le_refl _) (Nat.le_refl _)
theorem tX12_together_b104 {l : Launch} {G : gg} {Γ : ly} {d : Nat} {Q : Option Value → ly → mm → Prop} (hdd : 2 ≤ d) (σ : mm) (x0 : Nat) (x1 : Int32) (x3 : Int32) (x4 : Int32) (x5 : Int32)  (t0 : tyOK Γ (0, 11) x0)  (r : ((Int32 × Int32) ⊕ Int32)) (h : fX12_together_b104 Γ.2 σ x0 x1 x3 x4 x5 = some r) (hb : ∀ (x3 : Int32) (x5 : Int32), r = .inl (x3, x5) → WP l G yX12_together cX12_together 6 (some .int) d 0 0 Q 0 0 52 [(0, .ref (G.2.1 x0)), (1, .int x1), (3, .int x3), (4, .int x4), (5, .int x5)] [] Γ σ) (hx0 : ∀ (x3 : Int32), r = .inr x3 → WP l G yX12_together cX12_together 6 (some .int) d 0 0 Q 0 0 110 [(3, .int x3)] [] Γ σ) : WP l G yX12_together cX12_together 6 (some .int) d 0 0 Q 0 0 104 [(0, .ref (G.2.1 x0)), (1, .int x1), (3, .int x3), (4, .int x4), (5, .int x5)] [] Γ σ := by
  unfold fX12_together_b104 at h
  refine q_iinc (v := 1) 4 (fun v1 => [(5, .int v1), (0, .ref (G.2.1 x0)), (1, .int x1), (3, .int x3), (4, .int x4)]) dX12_together_104 rfl (by decide) (by decide) (fun _ => rfl) h (fun v1 h => ?_)
  refine r_goto 52 dX12_together_107 (by decide) ?_
  obtain rfl := Option.some.inj h
  refine r_pick [1, 2, 3, 4, 0] rfl ?_
  exact hb _ _ rfl
theorem sX12_together_L52 {l : Launch} {G : gg} {Γ : ly} {d : Nat} {Q : Option Value → ly → mm → Prop} (hdd : 2 ≤ d) (σ : mm) (x0 : Nat) (x1 : Int32) (x4 : Int32) (t0 : tyOK Γ (0, 11) x0) {K : Int32 → Prop} (kx0 : ∀ (x3 : Int32), K x3 → WP l G yX12_together cX12_together 6 (some .int) d 0 0 Q 0 0 110 [(3, .int x3)] [] Γ σ) : ∀ (N : Nat) (s : (Int32 × Int32)) (b : Int32), loopN (fX12_together_L52 Γ.2 σ x0 x1 x4) N s = some b → K b → WP l G yX12_together cX12_together 6 (some .int) d 0 0 Q 0 0 52 [(0, .ref (G.2.1 x0)), (1, .int x1), (3, .int s.1), (4, .int x4), (5, .int s.2)] [] Γ σ := by
  refine r_loop (f := fX12_together_L52 Γ.2 σ x0 x1 x4) (hlv := fun s => [(0, .ref (G.2.1 x0)), (1, .int x1), (3, .int s.1), (4, .int x4), (5, .int s.2)]) (hsg := fun s => σ) ?_
  rintro ⟨x3, x5⟩ r h hb hx
  have hb : ∀ (x3 : Int32) (x5 : Int32), r = .inl (x3, x5) → WP l G yX12_together cX12_together 6 (some .int) d 0 0 Q 0 0 52 [(0, .ref (G.2.1 x0)), (1, .int x1), (3, .int x3), (4, .int x4), (5, .int x5)] [] Γ σ := fun x3 x5 e => hb (x3, x5) e
  have hx0 : ∀ (x3 : Int32), r = .inr x3 → WP l G yX12_together cX12_together 6 (some .int) d 0 0 Q 0 0 110 [(3, .int x3)] [] Γ σ := fun x3 e => kx0 x3 (hx _ e)
  unfold fX12_together_L52 at h
  have h := un2_some h
  show WP l G yX12_together cX12_together 6 (some .int) d 0 0 Q 0 0 52 [(0, .ref (G.2.1 x0)), (1, .int x1), (3, .int x3), (4, .int x4), (5, .int x5)] [] Γ σ
  refine r_iload 4 dX12_together_52 rfl ?_
  refine r_iload 3 dX12_together_54 rfl ?_
  refine r_icmp_ge 110 dX12_together_56 (by decide) h (fun _ h => ?_) (fun _ h => ?_)
  · obtain rfl := Option.some.inj h
    refine r_pick [2] rfl ?_
    exact hx0 _ rfl
  · refine r_aload_n 0 dX12_together_59 rfl ?_
    refine q_getR (e9 := (0, 4)) dX12_together_60 fd_X12_19 t0 rfl h (fun r1 tr1 h => ?_)
    refine r_aload_n 0 dX12_together_63 rfl ?_
    refine q_getR (e9 := (0, 4)) dX12_together_64 fd_X12_19 t0 rfl h (fun r2 tr2 h => ?_)
    refine q_getR (e9 := (1, 0)) dX12_together_67 fd_X12_186 tr2 rfl h (fun r3 tr3 h => ?_)
    refine r_iload_n 1 dX12_together_70 rfl ?_
    refine q_iald dX12_together_71 tr3 h (fun v4 h => ?_)
    refine r_iload 4 dX12_together_72 rfl ?_
    obtain ⟨v5, ev5, h⟩ := bd0_some h
    refine q_cVI [.int v4, .int x5] dX12_together_74 cv_X12_338 (ci := 4) rfl rfl tr1 rfl rfl (Nat.le_of_ble_eq_true rfl) (by omega) (kX4_isUp (d - 1) (by omega) r1 v4 x5 tr1 v5 ev5) ?_
    refine r_if_eq 104 dX12_together_77 (by decide) h (fun _ h => ?_) (fun _ h => ?_)
    · exact tX12_together_b104 hdd σ x0 x1 x3 x4 x5 t0 _ h hb hx0
    · refine r_aload_n 0 dX12_together_80 rfl ?_
      refine q_getR (e9 := (0, 4)) dX12_together_81 fd_X12_19 t0 rfl h (fun r6 tr6 h => ?_)
      refine r_aload_n 0 dX12_together_84 rfl ?_
      refine q_getR (e9 := (0, 4)) dX12_together_85 fd_X12_19 t0 rfl h (fun r7 tr7 h => ?_)
      refine q_getR (e9 := (1, 0)) dX12_together_88 fd_X12_189 tr7 rfl h (fun r8 tr8 h => ?_)
      refine r_iload_n 1 dX12_together_91 rfl ?_
      refine q_iald dX12_together_92 tr8 h (fun v9 h => ?_)
      refine r_iload 4 dX12_together_93 rfl ?_
      obtain ⟨v10, ev10, h⟩ := bd0_some h
      refine q_cVI [.int v9, .int x5] dX12_together_95 cv_X12_338 (ci := 4) rfl rfl tr6 rfl rfl (Nat.le_of_ble_eq_true rfl) (by omega) (kX4_isUp (d - 1) (by omega) r6 v9 x5 tr6 v10 ev10) ?_
      refine r_if_eq 104 dX12_together_98 (by decide) h (fun _ h => ?_) (fun _ h => ?_)
      · exact tX12_together_b104 hdd σ x0 x1 x3 x4 x5 t0 _ h hb hx0
      · refine q_iinc (v := 1) 2 (fun v11 => [(3, .int v11), (0, .ref (G.2.1 x0)), (1, .int x1), (4, .int x4), (5, .int x5)]) dX12_together_101 rfl (by decide) (by decide) (fun _ => rfl) h (fun v11 h => ?_)
        refine r_pick [1, 2, 0, 3, 4] rfl ?_
        exact tX12_together_b104 hdd σ x0 x1 v11 x4 x5 t0 _ h hb hx0
theorem kX12_together {l : Launch} {G : gg} {Γ : ly} {σ : mm} (d : Nat) (hdd : 2 ≤ d) (x0 : Nat) (x1 : Int32) (x2 : Int32) (t0 : tyOK Γ (0, 11) x0) (r : Int32) (h : fX12_together Γ.2 σ x0 x1 x2 = some r) : CT l G yX12_together cX12_together 6 (some .int) d 0 0 [.ref (G.2.1 x0), .int x1, .int x2] Γ σ (PP (some (.int r)) Γ σ) := by
  refine CT.ofWP (by decide) (Nat.le_of_ble_eq_true rfl) ?_
  have hQ : PP (some (.int r)) Γ σ (some (.int r)) Γ σ := PP.self
  generalize PP (some (.int r)) Γ σ = Q at hQ ⊢
  show WP l G yX12_together cX12_together 6 (some .int) d 0 0 Q 0 0 0 [(0, .ref (G.2.1 x0)), (1, .int x1), (2, .int x2)] [] Γ σ
  unfold fX12_together at h
  refine r_aload_n 0 dX12_together_0 rfl ?_
  refine q_getR (e9 := (0, 4)) dX12_together_1 fd_X12_19 t0 rfl h (fun r1 tr1 h => ?_)
  refine r_iload_n 1 dX12_together_4 rfl ?_
  obtain ⟨v2, ev2, h⟩ := bd0_some h
  refine q_cVI [.int x1] dX12_together_5 cv_X12_181 (ci := 4) rfl rfl tr1 rfl rfl (Nat.le_of_ble_eq_true rfl) (by omega) (kX4_hasGlass (d - 1) (by omega) r1 x1 tr1 v2 ev2) ?_
  refine r_if_eq 21 dX12_together_8 (by decide) h (fun _ h => ?_) (fun _ h => ?_)
  · refine r_pick [] rfl ?_
    exact tX12_together_b21 hdd σ  _ h hQ
  · refine r_iconst (v := 1) dX12_together_11 (by decide) ?_
    refine r_bipush (v := 60) dX12_together_12 (by decide) ?_
    refine r_iload_n 2 dX12_together_14 rfl ?_
    obtain ⟨v3, ev3, h⟩ := bd0_some h
    refine q_cSI [.int (1 : Int32), .int (60 : Int32), .int x2] dX12_together_15 cs_X12_268 rfl rfl (Nat.le_of_ble_eq_true rfl) (by omega) (kX12_isFrom (d - 1) (by omega) (1 : Int32) (60 : Int32) x2  v3 ev3) ?_
    refine r_if_ne 23 dX12_together_18 (by decide) h (fun _ h => ?_) (fun _ h => ?_)
    · refine r_iconst (v := 0) dX12_together_23 (by decide) ?_
      refine r_istore_n (lv' := [(3, .int (0 : Int32)), (0, .ref (G.2.1 x0)), (1, .int x1), (2, .int x2)]) dX12_together_24 (by decide) rfl ?_
      refine r_aload_n 1 dX12_together_25 rfl ?_
      refine q_getR (e9 := (0, 3)) dX12_together_26 fd_X12_40 t0 rfl h (fun r4 tr4 h => ?_)
      refine r_getI dX12_together_29 fd_X12_213 tr4 ?_
      refine r_aload_n 1 dX12_together_32 rfl ?_
      refine q_getR (e9 := (0, 3)) dX12_together_33 fd_X12_40 t0 rfl h (fun r5 tr5 h => ?_)
      refine r_iload_n 3 dX12_together_36 rfl ?_
      obtain ⟨v6, ev6, h⟩ := bd0_some h
      refine q_cVI [.int x2] dX12_together_37 cv_X12_283 (ci := 3) rfl rfl tr5 rfl rfl (Nat.le_of_ble_eq_true rfl) (by omega) (kX3_hoursOf (d - 1) (by omega) r5 x2 tr5 v6 ev6) ?_
      refine r_iadd dX12_together_40 ?_
      refine q_nmI h (fun v7 h => ?_)
      refine r_istore (lv' := [(4, .int v7), (3, .int (0 : Int32)), (0, .ref (G.2.1 x0)), (1, .int x1), (2, .int x2)]) dX12_together_41 (by decide) rfl ?_
      refine r_aload_n 2 dX12_together_43 rfl ?_
      refine q_getR (e9 := (0, 3)) dX12_together_44 fd_X12_40 t0 rfl h (fun r8 tr8 h => ?_)
      refine r_getI dX12_together_47 fd_X12_213 tr8 ?_
      refine q_nmI h (fun v9 h => ?_)
      refine r_istore (lv' := [(5, .int v9), (4, .int v7), (3, .int (0 : Int32)), (0, .ref (G.2.1 x0)), (1, .int x1), (2, .int x2)]) dX12_together_50 (by decide) rfl ?_
      obtain ⟨b10, eb10, h⟩ := bd0_some h
      refine r_pick [3, 4, 2, 1, 0] rfl ?_
      refine sX12_together_L52 hdd σ x0 x1 v7 t0 (K := fun b => b = b10) ?_ 1000 ((0 : Int32), v9) b10 eb10 rfl
      rintro v11 rfl
      refine r_iload_n 0 dX12_together_110 rfl ?_
      obtain rfl := Option.some.inj h
      exact r_ireturn dX12_together_111 rfl hQ (Nat.le_refl _) (Nat.le_refl _)
    · refine r_pick [] rfl ?_
      exact tX12_together_b21 hdd σ  _ h hQ
theorem tX12_parts_b37 {l : Launch} {G : gg} {Γ : ly} {d : Nat} {Q : Option Value → ly → mm → Prop} (hdd : 3 ≤ d) (σ : mm)  (s0 : Int32)   (r : Int32) (h : fX12_parts_b37 Γ.2 σ s0 = some r) (hQ : Q (some (.int r)) Γ σ) : WP l G yX12_parts cX12_parts 2 (some .int) d 0 0 Q 0 0 37 [] [.int s0] Γ σ := by
  unfold fX12_parts_b37 at h
  obtain rfl := Option.some.inj h
  exact r_ireturn dX12_parts_37 rfl hQ (Nat.le_refl _) (Nat.le_refl _)
theorem kX12_parts {l : Launch} {G : gg} {Γ : ly} {σ : mm} (d : Nat) (hdd : 3 ≤ d) (x0 : Nat) (x1 : Int32) (t0 : tyOK Γ (0, 11) x0) (r : Int32) (h : fX12_parts Γ.2 σ x0 x1 = some r) : CT l G yX12_parts cX12_parts 2 (some .int) d 0 0 [.ref (G.2.1 x0), .int x1] Γ σ (PP (some (.int r)) Γ σ) := by
  refine CT.ofWP (by decide) (Nat.le_of_ble_eq_true rfl) ?_
  have hQ : PP (some (.int r)) Γ σ (some (.int r)) Γ σ := PP.self
  generalize PP (some (.int r)) Γ σ = Q at hQ ⊢
  show WP l G yX12_parts cX12_parts 2 (some .int) d 0 0 Q 0 0 0 [(0, .ref (G.2.1 x0)), (1, .int x1)] [] Γ σ
  unfold fX12_parts at h
  refine r_aload_n 0 dX12_parts_0 rfl ?_
  refine q_getR (e9 := (0, 4)) dX12_parts_1 fd_X12_19 t0 rfl h (fun r1 tr1 h => ?_)
  refine r_iload_n 1 dX12_parts_4 rfl ?_
  obtain ⟨v2, ev2, h⟩ := bd0_some h
  refine q_cVI [.int x1] dX12_parts_5 cv_X12_181 (ci := 4) rfl rfl tr1 rfl rfl (Nat.le_of_ble_eq_true rfl) (by omega) (kX4_hasGlass (d - 1) (by omega) r1 x1 tr1 v2 ev2) ?_
  refine r_if_eq 36 dX12_parts_8 (by decide) h (fun _ h => ?_) (fun _ h => ?_)
  · refine r_iconst (v := -1) dX12_parts_36 (by decide) ?_
    refine r_pick [] rfl ?_
    exact tX12_parts_b37 hdd σ (-1 : Int32)  _ h hQ
  · refine r_aload_n 0 dX12_parts_11 rfl ?_
    refine q_getR (e9 := (0, 4)) dX12_parts_12 fd_X12_19 t0 rfl h (fun r3 tr3 h => ?_)
    refine q_getR (e9 := (0, 2)) dX12_parts_15 fd_X12_241 tr3 rfl h (fun r4 tr4 h => ?_)
    refine r_iload_n 1 dX12_parts_18 rfl ?_
    refine r_aload_n 0 dX12_parts_19 rfl ?_
    refine q_getR (e9 := (0, 4)) dX12_parts_20 fd_X12_19 t0 rfl h (fun r5 tr5 h => ?_)
    refine q_getR (e9 := (0, 2)) dX12_parts_23 fd_X12_241 tr5 rfl h (fun r6 tr6 h => ?_)
    refine r_iload_n 1 dX12_parts_26 rfl ?_
    obtain ⟨v7, ev7, h⟩ := bd0_some h
    refine q_cVI [.int x1] dX12_parts_27 cv_X12_342 (ci := 2) rfl rfl tr6 rfl rfl (Nat.le_of_ble_eq_true rfl) (by omega) (kX2_bestParting (d - 1) (by omega) r6 x1 tr6 v7 ev7) ?_
    obtain ⟨v8, ev8, h⟩ := bd0_some h
    refine q_cVI [.int x1, .int v7] dX12_parts_30 cv_X12_345 (ci := 2) rfl rfl tr4 rfl rfl (Nat.le_of_ble_eq_true rfl) (by omega) (kX2_lesserSum (d - 1) (by omega) r4 x1 v7 tr4 v8 ev8) ?_
    refine r_goto 37 dX12_parts_33 (by decide) ?_
    refine r_pick [] rfl ?_
    exact tX12_parts_b37 hdd σ v8  _ h hQ
theorem tX12_parted_b26 {l : Launch} {G : gg} {Γ : ly} {d : Nat} {Q : Option Value → ly → mm → Prop} (hdd : 3 ≤ d) (σ : mm)  (s0 : Int32)   (r : Int32) (h : fX12_parted_b26 Γ.2 σ s0 = some r) (hQ : Q (some (.int r)) Γ σ) : WP l G yX12_parted cX12_parted 2 (some .int) d 0 0 Q 0 0 26 [] [.int s0] Γ σ := by
  unfold fX12_parted_b26 at h
  obtain rfl := Option.some.inj h
  exact r_ireturn dX12_parted_26 rfl hQ (Nat.le_refl _) (Nat.le_refl _)
theorem kX12_parted {l : Launch} {G : gg} {Γ : ly} {σ : mm} (d : Nat) (hdd : 3 ≤ d) (x0 : Nat) (x1 : Int32) (t0 : tyOK Γ (0, 11) x0) (r : Int32) (h : fX12_parted Γ.2 σ x0 x1 = some r) : CT l G yX12_parted cX12_parted 2 (some .int) d 0 0 [.ref (G.2.1 x0), .int x1] Γ σ (PP (some (.int r)) Γ σ) := by
  refine CT.ofWP (by decide) (Nat.le_of_ble_eq_true rfl) ?_
  have hQ : PP (some (.int r)) Γ σ (some (.int r)) Γ σ := PP.self
  generalize PP (some (.int r)) Γ σ = Q at hQ ⊢
  show WP l G yX12_parted cX12_parted 2 (some .int) d 0 0 Q 0 0 0 [(0, .ref (G.2.1 x0)), (1, .int x1)] [] Γ σ
  unfold fX12_parted at h
  refine r_aload_n 0 dX12_parted_0 rfl ?_
  refine q_getR (e9 := (0, 4)) dX12_parted_1 fd_X12_19 t0 rfl h (fun r1 tr1 h => ?_)
  refine r_iload_n 1 dX12_parted_4 rfl ?_
  obtain ⟨v2, ev2, h⟩ := bd0_some h
  refine q_cVI [.int x1] dX12_parted_5 cv_X12_181 (ci := 4) rfl rfl tr1 rfl rfl (Nat.le_of_ble_eq_true rfl) (by omega) (kX4_hasGlass (d - 1) (by omega) r1 x1 tr1 v2 ev2) ?_
  refine r_if_eq 25 dX12_parted_8 (by decide) h (fun _ h => ?_) (fun _ h => ?_)
  · refine r_iconst (v := -1) dX12_parted_25 (by decide) ?_
    refine r_pick [] rfl ?_
    exact tX12_parted_b26 hdd σ (-1 : Int32)  _ h hQ
  · refine r_aload_n 0 dX12_parted_11 rfl ?_
    refine q_getR (e9 := (0, 4)) dX12_parted_12 fd_X12_19 t0 rfl h (fun r3 tr3 h => ?_)
    refine q_getR (e9 := (0, 2)) dX12_parted_15 fd_X12_241 tr3 rfl h (fun r4 tr4 h => ?_)
    refine r_iload_n 1 dX12_parted_18 rfl ?_
    obtain ⟨v5, ev5, h⟩ := bd0_some h
    refine q_cVI [.int x1] dX12_parted_19 cv_X12_342 (ci := 2) rfl rfl tr4 rfl rfl (Nat.le_of_ble_eq_true rfl) (by omega) (kX2_bestParting (d - 1) (by omega) r4 x1 tr4 v5 ev5) ?_
    refine r_goto 26 dX12_parted_22 (by decide) ?_
    refine r_pick [] rfl ?_
    exact tX12_parted_b26 hdd σ v5  _ h hQ
theorem tX12_good_b18 {l : Launch} {G : gg} {Γ : ly} {d : Nat} {Q : Option Value → ly → mm → Prop} (hdd : 0 ≤ d) (σ : mm)     (r : Int32) (h : fX12_good_b18 Γ.2 σ  = some r) (hQ : Q (some (.int r)) Γ σ) : WP l G yX12_good cX12_good 3 (some .int) d 0 0 Q 0 0 18 [] [] Γ σ := by
  unfold fX12_good_b18 at h
  refine r_iconst (v := -1) dX12_good_18 (by decide) ?_
  obtain rfl := Option.some.inj h
  exact r_ireturn dX12_good_19 rfl hQ (Nat.le_refl _) (Nat.le_refl _)
theorem kX12_good {l : Launch} {G : gg} {Γ : ly} {σ : mm} (d : Nat) (hdd : 0 ≤ d) (x0 : Nat) (x1 : Int32) (x2 : Int32) (t0 : tyOK Γ (0, 11) x0) (r : Int32) (h : fX12_good Γ.2 σ x0 x1 x2 = some r) : CT l G yX12_good cX12_good 3 (some .int) d 0 0 [.ref (G.2.1 x0), .int x1, .int x2] Γ σ (PP (some (.int r)) Γ σ) := by
  refine CT.ofWP (by decide) (Nat.le_of_ble_eq_true rfl) ?_
  have hQ : PP (some (.int r)) Γ σ (some (.int r)) Γ σ := PP.self
  generalize PP (some (.int r)) Γ σ = Q at hQ ⊢
  show WP l G yX12_good cX12_good 3 (some .int) d 0 0 Q 0 0 0 [(0, .ref (G.2.1 x0)), (1, .int x1), (2, .int x2)] [] Γ σ
  unfold fX12_good at h
  refine r_iload_n 1 dX12_good_0 rfl ?_
  refine r_if_lt 18 dX12_good_1 (by decide) h (fun _ h => ?_) (fun _ h => ?_)
  · refine r_pick [] rfl ?_
    exact tX12_good_b18 hdd σ  _ h hQ
  · refine r_iload_n 1 dX12_good_4 rfl ?_
    refine r_aload_n 0 dX12_good_5 rfl ?_
    refine q_getR (e9 := (0, 4)) dX12_good_6 fd_X12_19 t0 rfl h (fun r1 tr1 h => ?_)
    refine q_getR (e9 := (0, 2)) dX12_good_9 fd_X12_241 tr1 rfl h (fun r2 tr2 h => ?_)
    refine r_getI dX12_good_12 fd_X12_245 tr2 ?_
    refine r_icmp_lt 20 dX12_good_15 (by decide) h (fun _ h => ?_) (fun _ h => ?_)
    · refine r_iload_n 2 dX12_good_20 rfl ?_
      rcases if_split h with ⟨q9, h⟩ | ⟨n0, h⟩
      · refine r_table (0 : Int32) 27 48 dX12_good_21 q9 (by decide) (by decide) rfl (by decide) ?_
        refine r_aload_n 0 dX12_good_48 rfl ?_
        refine q_getR (e9 := (0, 4)) dX12_good_49 fd_X12_19 t0 rfl h (fun r3 tr3 h => ?_)
        refine q_getR (e9 := (0, 2)) dX12_good_52 fd_X12_241 tr3 rfl h (fun r4 tr4 h => ?_)
        refine q_getR (e9 := (1, 0)) dX12_good_55 fd_X12_348 tr4 rfl h (fun r5 tr5 h => ?_)
        refine r_iload_n 1 dX12_good_58 rfl ?_
        refine q_iald dX12_good_59 tr5 h (fun v6 h => ?_)
        obtain rfl := Option.some.inj h
        exact r_ireturn dX12_good_60 rfl hQ (Nat.le_refl _) (Nat.le_refl _)
      rcases if_split h with ⟨q9, h⟩ | ⟨n1, h⟩
      · refine r_table (1 : Int32) 40 61 dX12_good_21 q9 (by decide) (by decide) rfl (by decide) ?_
        refine r_aload_n 0 dX12_good_61 rfl ?_
        refine q_getR (e9 := (0, 4)) dX12_good_62 fd_X12_19 t0 rfl h (fun r7 tr7 h => ?_)
        refine q_getR (e9 := (0, 2)) dX12_good_65 fd_X12_241 tr7 rfl h (fun r8 tr8 h => ?_)
        refine q_getR (e9 := (1, 0)) dX12_good_68 fd_X12_351 tr8 rfl h (fun r9 tr9 h => ?_)
        refine r_iload_n 1 dX12_good_71 rfl ?_
        refine q_iald dX12_good_72 tr9 h (fun v10 h => ?_)
        obtain rfl := Option.some.inj h
        exact r_ireturn dX12_good_73 rfl hQ (Nat.le_refl _) (Nat.le_refl _)
      rcases if_split h with ⟨q9, h⟩ | ⟨n2, h⟩
      · refine r_table (2 : Int32) 53 74 dX12_good_21 q9 (by decide) (by decide) rfl (by decide) ?_
        refine r_aload_n 0 dX12_good_74 rfl ?_
        refine q_getR (e9 := (0, 4)) dX12_good_75 fd_X12_19 t0 rfl h (fun r11 tr11 h => ?_)
        refine q_getR (e9 := (0, 2)) dX12_good_78 fd_X12_241 tr11 rfl h (fun r12 tr12 h => ?_)
        refine q_getR (e9 := (1, 0)) dX12_good_81 fd_X12_354 tr12 rfl h (fun r13 tr13 h => ?_)
        refine r_iload_n 1 dX12_good_84 rfl ?_
        refine q_iald dX12_good_85 tr13 h (fun v14 h => ?_)
        obtain rfl := Option.some.inj h
        exact r_ireturn dX12_good_86 rfl hQ (Nat.le_refl _) (Nat.le_refl _)
      have n0 := ne_int n0 (z := 0) rfl
      have n1 := ne_int n1 (z := 1) rfl
      have n2 := ne_int n2 (z := 2) rfl
      refine r_tableD 87 dX12_good_21 (by omega) (by decide) ?_
      refine r_iconst (v := -1) dX12_good_87 (by decide) ?_
      obtain rfl := Option.some.inj h
      exact r_ireturn dX12_good_88 rfl hQ (Nat.le_refl _) (Nat.le_refl _)
    · refine r_pick [] rfl ?_
      exact tX12_good_b18 hdd σ  _ h hQ
theorem tX12_ringBits_b80 {l : Launch} {G : gg} {Γ : ly} {d : Nat} {Q : Option Value → ly → mm → Prop} (hdd : 2 ≤ d) (σ : mm) (x0 : Nat) (x1 : Int32) (x2 : Int32) (x3 : Int32) (x4 : Int32) (x5 : Int32)  (t0 : tyOK Γ (0, 11) x0)  (r : ((Int32 × Int32 × Int32) ⊕ Int32)) (h : fX12_ringBits_b80 Γ.2 σ x0 x1 x2 x3 x4 x5 = some r) (hb : ∀ (x3 : Int32) (x4 : Int32) (x5 : Int32), r = .inl (x3, x4, x5) → WP l G yX12_ringBits cX12_ringBits 6 (some .int) d 0 0 Q 0 0 16 [(0, .ref (G.2.1 x0)), (1, .int x1), (2, .int x2), (3, .int x3), (4, .int x4), (5, .int x5)] [] Γ σ) (hx0 : ∀ (x3 : Int32), r = .inr x3 → WP l G yX12_ringBits cX12_ringBits 6 (some .int) d 0 0 Q 0 0 86 [(3, .int x3)] [] Γ σ) : WP l G yX12_ringBits cX12_ringBits 6 (some .int) d 0 0 Q 0 0 80 [(0, .ref (G.2.1 x0)), (1, .int x1), (2, .int x2), (3, .int x3), (4, .int x4), (5, .int x5)] [] Γ σ := by
  unfold fX12_ringBits_b80 at h
  refine q_iinc (v := 1) 5 (fun v1 => [(5, .int v1), (0, .ref (G.2.1 x0)), (1, .int x1), (2, .int x2), (3, .int x3), (4, .int x4)]) dX12_ringBits_80 rfl (by decide) (by decide) (fun _ => rfl) h (fun v1 h => ?_)
  refine r_goto 16 dX12_ringBits_83 (by decide) ?_
  obtain rfl := Option.some.inj h
  refine r_pick [1, 2, 3, 4, 5, 0] rfl ?_
  exact hb _ _ _ rfl
theorem tX12_ringBits_b67 {l : Launch} {G : gg} {Γ : ly} {d : Nat} {Q : Option Value → ly → mm → Prop} (hdd : 2 ≤ d) (σ : mm) (x0 : Nat) (x1 : Int32) (x2 : Int32) (x3 : Int32) (x4 : Int32) (x5 : Int32)  (t0 : tyOK Γ (0, 11) x0)  (r : ((Int32 × Int32 × Int32) ⊕ Int32)) (h : fX12_ringBits_b67 Γ.2 σ x0 x1 x2 x3 x4 x5 = some r) (hb : ∀ (x3 : Int32) (x4 : Int32) (x5 : Int32), r = .inl (x3, x4, x5) → WP l G yX12_ringBits cX12_ringBits 6 (some .int) d 0 0 Q 0 0 16 [(0, .ref (G.2.1 x0)), (1, .int x1), (2, .int x2), (3, .int x3), (4, .int x4), (5, .int x5)] [] Γ σ) (hx0 : ∀ (x3 : Int32), r = .inr x3 → WP l G yX12_ringBits cX12_ringBits 6 (some .int) d 0 0 Q 0 0 86 [(3, .int x3)] [] Γ σ) : WP l G yX12_ringBits cX12_ringBits 6 (some .int) d 0 0 Q 0 0 67 [(0, .ref (G.2.1 x0)), (1, .int x1), (2, .int x2), (3, .int x3), (4, .int x4), (5, .int x5)] [] Γ σ := by
  unfold fX12_ringBits_b67 at h
  refine r_iload 4 dX12_ringBits_67 rfl ?_
  refine r_iload_n 2 dX12_ringBits_69 rfl ?_
  refine r_icmp_ne 80 dX12_ringBits_70 (by decide) h (fun _ h => ?_) (fun _ h => ?_)
  · exact tX12_ringBits_b80 hdd σ x0 x1 x2 x3 x4 x5 t0 _ h hb hx0
  · refine r_iload_n 3 dX12_ringBits_73 rfl ?_
    refine r_iconst (v := 1) dX12_ringBits_74 (by decide) ?_
    refine r_iload 5 dX12_ringBits_75 rfl ?_
    refine r_ishl dX12_ringBits_77 ?_
    refine r_ior dX12_ringBits_78 ?_
    refine q_nmI h (fun v1 h => ?_)
    refine r_istore_n (lv' := [(3, .int v1), (0, .ref (G.2.1 x0)), (1, .int x1), (2, .int x2), (4, .int x4), (5, .int x5)]) dX12_ringBits_79 (by decide) rfl ?_
    refine r_pick [1, 2, 3, 0, 4, 5] rfl ?_
    exact tX12_ringBits_b80 hdd σ x0 x1 x2 v1 x4 x5 t0 _ h hb hx0
theorem sX12_ringBits_L16 {l : Launch} {G : gg} {Γ : ly} {d : Nat} {Q : Option Value → ly → mm → Prop} (hdd : 2 ≤ d) (σ : mm) (x0 : Nat) (x1 : Int32) (x2 : Int32) (t0 : tyOK Γ (0, 11) x0) {K : Int32 → Prop} (kx0 : ∀ (x3 : Int32), K x3 → WP l G yX12_ringBits cX12_ringBits 6 (some .int) d 0 0 Q 0 0 86 [(3, .int x3)] [] Γ σ) : ∀ (N : Nat) (s : (Int32 × Int32 × Int32)) (b : Int32), loopN (fX12_ringBits_L16 Γ.2 σ x0 x1 x2) N s = some b → K b → WP l G yX12_ringBits cX12_ringBits 6 (some .int) d 0 0 Q 0 0 16 [(0, .ref (G.2.1 x0)), (1, .int x1), (2, .int x2), (3, .int s.1), (4, .int s.2.1), (5, .int s.2.2)] [] Γ σ := by
  refine r_loop (f := fX12_ringBits_L16 Γ.2 σ x0 x1 x2) (hlv := fun s => [(0, .ref (G.2.1 x0)), (1, .int x1), (2, .int x2), (3, .int s.1), (4, .int s.2.1), (5, .int s.2.2)]) (hsg := fun s => σ) ?_
  rintro ⟨x3, x4, x5⟩ r h hb hx
  have hb : ∀ (x3 : Int32) (x4 : Int32) (x5 : Int32), r = .inl (x3, x4, x5) → WP l G yX12_ringBits cX12_ringBits 6 (some .int) d 0 0 Q 0 0 16 [(0, .ref (G.2.1 x0)), (1, .int x1), (2, .int x2), (3, .int x3), (4, .int x4), (5, .int x5)] [] Γ σ := fun x3 x4 x5 e => hb (x3, x4, x5) e
  have hx0 : ∀ (x3 : Int32), r = .inr x3 → WP l G yX12_ringBits cX12_ringBits 6 (some .int) d 0 0 Q 0 0 86 [(3, .int x3)] [] Γ σ := fun x3 e => kx0 x3 (hx _ e)
  unfold fX12_ringBits_L16 at h
  have h := un3_some h
  show WP l G yX12_ringBits cX12_ringBits 6 (some .int) d 0 0 Q 0 0 16 [(0, .ref (G.2.1 x0)), (1, .int x1), (2, .int x2), (3, .int x3), (4, .int x4), (5, .int x5)] [] Γ σ
  refine r_iload 5 dX12_ringBits_16 rfl ?_
  refine r_bipush (v := 24) dX12_ringBits_18 (by decide) ?_
  refine r_icmp_gt 86 dX12_ringBits_20 (by decide) h (fun _ h => ?_) (fun _ h => ?_)
  · obtain rfl := Option.some.inj h
    refine r_pick [3] rfl ?_
    exact hx0 _ rfl
  · refine r_iload 5 dX12_ringBits_23 rfl ?_
    refine r_aload_n 0 dX12_ringBits_25 rfl ?_
    refine q_getR (e9 := (0, 3)) dX12_ringBits_26 fd_X12_40 t0 rfl h (fun r1 tr1 h => ?_)
    refine r_getI dX12_ringBits_29 fd_X12_213 tr1 ?_
    refine r_icmp_gt 86 dX12_ringBits_32 (by decide) h (fun _ h => ?_) (fun _ h => ?_)
    · obtain rfl := Option.some.inj h
      refine r_pick [3] rfl ?_
      exact hx0 _ rfl
    · refine r_iload 5 dX12_ringBits_35 rfl ?_
      refine r_if_le 67 dX12_ringBits_37 (by decide) h (fun _ h => ?_) (fun _ h => ?_)
      · exact tX12_ringBits_b67 hdd σ x0 x1 x2 x3 x4 x5 t0 _ h hb hx0
      · refine r_iconst (v := 0) dX12_ringBits_40 (by decide) ?_
        refine r_iload 4 dX12_ringBits_41 rfl ?_
        refine r_aload_n 0 dX12_ringBits_43 rfl ?_
        refine q_getR (e9 := (0, 3)) dX12_ringBits_44 fd_X12_40 t0 rfl h (fun r2 tr2 h => ?_)
        refine r_iload_n 1 dX12_ringBits_47 rfl ?_
        refine r_aload_n 0 dX12_ringBits_48 rfl ?_
        refine q_getR (e9 := (0, 3)) dX12_ringBits_49 fd_X12_40 t0 rfl h (fun r3 tr3 h => ?_)
        refine r_getI dX12_ringBits_52 fd_X12_213 tr3 ?_
        refine r_iload 5 dX12_ringBits_55 rfl ?_
        refine r_isub dX12_ringBits_57 ?_
        obtain ⟨v4, ev4, h⟩ := bd0_some h
        refine q_cVI [.int x1, .int ((σ.1 r3 1) - x5)] dX12_ringBits_58 cv_X12_216 (ci := 3) rfl rfl tr2 rfl rfl (Nat.le_of_ble_eq_true rfl) (by omega) (kX3_runsAt (d - 1) (by omega) r2 x1 ((σ.1 r3 1) - x5) tr2 v4 ev4) ?_
        refine r_isub dX12_ringBits_61 ?_
        refine r_max dX12_ringBits_62 mx_X12_363 (Nat.le_of_ble_eq_true rfl) (by omega) (Nat.le_refl _) (Nat.le_refl _) ?_
        refine q_nmI h (fun v5 h => ?_)
        refine r_istore (lv' := [(4, .int v5), (0, .ref (G.2.1 x0)), (1, .int x1), (2, .int x2), (3, .int x3), (5, .int x5)]) dX12_ringBits_65 (by decide) rfl ?_
        refine r_pick [1, 2, 3, 4, 0, 5] rfl ?_
        exact tX12_ringBits_b67 hdd σ x0 x1 x2 x3 v5 x5 t0 _ h hb hx0
theorem tX12_ringBits_b86 {l : Launch} {G : gg} {Γ : ly} {d : Nat} {Q : Option Value → ly → mm → Prop} (hdd : 2 ≤ d) (σ : mm) (x3 : Int32)    (r : Int32) (h : fX12_ringBits_b86 Γ.2 σ x3 = some r) (hQ : Q (some (.int r)) Γ σ) : WP l G yX12_ringBits cX12_ringBits 6 (some .int) d 0 0 Q 0 0 86 [(3, .int x3)] [] Γ σ := by
  unfold fX12_ringBits_b86 at h
  refine r_iload_n 0 dX12_ringBits_86 rfl ?_
  obtain rfl := Option.some.inj h
  exact r_ireturn dX12_ringBits_87 rfl hQ (Nat.le_refl _) (Nat.le_refl _)
theorem kX12_ringBits {l : Launch} {G : gg} {Γ : ly} {σ : mm} (d : Nat) (hdd : 2 ≤ d) (x0 : Nat) (x1 : Int32) (x2 : Int32) (t0 : tyOK Γ (0, 11) x0) (r : Int32) (h : fX12_ringBits Γ.2 σ x0 x1 x2 = some r) : CT l G yX12_ringBits cX12_ringBits 6 (some .int) d 0 0 [.ref (G.2.1 x0), .int x1, .int x2] Γ σ (PP (some (.int r)) Γ σ) := by
  refine CT.ofWP (by decide) (Nat.le_of_ble_eq_true rfl) ?_
  have hQ : PP (some (.int r)) Γ σ (some (.int r)) Γ σ := PP.self
  generalize PP (some (.int r)) Γ σ = Q at hQ ⊢
  show WP l G yX12_ringBits cX12_ringBits 6 (some .int) d 0 0 Q 0 0 0 [(0, .ref (G.2.1 x0)), (1, .int x1), (2, .int x2)] [] Γ σ
  unfold fX12_ringBits at h
  refine r_iconst (v := 0) dX12_ringBits_0 (by decide) ?_
  refine r_istore_n (lv' := [(3, .int (0 : Int32)), (0, .ref (G.2.1 x0)), (1, .int x1), (2, .int x2)]) dX12_ringBits_1 (by decide) rfl ?_
  refine r_aload_n 1 dX12_ringBits_2 rfl ?_
  refine q_getR (e9 := (0, 4)) dX12_ringBits_3 fd_X12_19 t0 rfl h (fun r1 tr1 h => ?_)
  refine q_getR (e9 := (1, 0)) dX12_ringBits_6 fd_X12_192 tr1 rfl h (fun r2 tr2 h => ?_)
  refine r_iload_n 2 dX12_ringBits_9 rfl ?_
  refine q_iald dX12_ringBits_10 tr2 h (fun v3 h => ?_)
  refine r_istore (lv' := [(4, .int v3), (3, .int (0 : Int32)), (0, .ref (G.2.1 x0)), (1, .int x1), (2, .int x2)]) dX12_ringBits_11 (by decide) rfl ?_
  refine r_iconst (v := 0) dX12_ringBits_13 (by decide) ?_
  refine r_istore (lv' := [(5, .int (0 : Int32)), (4, .int v3), (3, .int (0 : Int32)), (0, .ref (G.2.1 x0)), (1, .int x1), (2, .int x2)]) dX12_ringBits_14 (by decide) rfl ?_
  obtain ⟨b4, eb4, h⟩ := bd0_some h
  refine r_pick [3, 4, 5, 2, 1, 0] rfl ?_
  refine sX12_ringBits_L16 hdd σ x0 x1 x2 t0 (K := fun b => b = b4) ?_ 1000 ((0 : Int32), v3, (0 : Int32)) b4 eb4 rfl
  rintro v5 rfl
  exact tX12_ringBits_b86 hdd σ v5  _ h hQ
theorem tX12_rings_b54 {l : Launch} {G : gg} {Γ : ly} {d : Nat} {Q : Option Value → ly → mm → Prop} (hdd : 3 ≤ d) (σ : mm)  (s0 : Int32)   (r : (Int32 × mm)) (h : fX12_rings_b54 Γ.2 σ s0 = some r) (hQ : Q (some (.int r.1)) Γ r.2) : WP l G yX12_rings cX12_rings 3 (some .int) d 0 0 Q 0 0 54 [] [.int s0] Γ σ := by
  unfold fX12_rings_b54 at h
  obtain rfl := Option.some.inj h
  exact r_ireturn dX12_rings_54 rfl hQ (Nat.le_refl _) (Nat.le_refl _)
theorem tX12_rings_b53 {l : Launch} {G : gg} {Γ : ly} {d : Nat} {Q : Option Value → ly → mm → Prop} (hdd : 3 ≤ d) (σ : mm)     (r : (Int32 × mm)) (h : fX12_rings_b53 Γ.2 σ  = some r) (hQ : Q (some (.int r.1)) Γ r.2) : WP l G yX12_rings cX12_rings 3 (some .int) d 0 0 Q 0 0 53 [] [] Γ σ := by
  unfold fX12_rings_b53 at h
  refine r_iconst (v := -1) dX12_rings_53 (by decide) ?_
  exact tX12_rings_b54 hdd σ (-1 : Int32)  _ h hQ
theorem tX12_rings_b22 {l : Launch} {G : gg} {Γ : ly} {d : Nat} {Q : Option Value → ly → mm → Prop} (hdd : 3 ≤ d) (σ : mm) (x0 : Nat) (x1 : Int32) (s0 : Int32) (t0 : tyOK Γ (0, 11) x0)  (r : (Int32 × mm)) (h : fX12_rings_b22 Γ.2 σ x0 x1 s0 = some r) (hQ : Q (some (.int r.1)) Γ r.2) : WP l G yX12_rings cX12_rings 3 (some .int) d 0 0 Q 0 0 22 [(0, .ref (G.2.1 x0)), (1, .int x1)] [.int s0] Γ σ := by
  unfold fX12_rings_b22 at h
  refine r_istore_n (lv' := [(2, .int s0), (0, .ref (G.2.1 x0)), (1, .int x1)]) dX12_rings_22 (by decide) rfl ?_
  refine r_aload_n 1 dX12_rings_23 rfl ?_
  refine q_getR (e9 := (0, 8)) dX12_rings_24 fd_X12_10 t0 rfl h (fun r1 tr1 h => ?_)
  refine r_iconst (v := 0) dX12_rings_27 (by decide) ?_
  refine q_putI dX12_rings_28 fd_X12_120 tr1 h (fun τ2 h => ?_)
  refine r_iload_n 0 dX12_rings_31 rfl ?_
  refine r_iconst (v := -1) dX12_rings_32 (by decide) ?_
  refine r_icmp_eq 53 dX12_rings_33 (by decide) h (fun _ h => ?_) (fun _ h => ?_)
  · refine r_pick [] rfl ?_
    exact tX12_rings_b53 hdd τ2  _ h hQ
  · refine r_aload_n 1 dX12_rings_36 rfl ?_
    refine r_iload_n 2 dX12_rings_37 rfl ?_
    obtain ⟨v3, ev3, h⟩ := bd0_some h
    refine q_cVI [.int x1] dX12_rings_38 cv_X12_293 (ci := 11) rfl rfl t0 rfl rfl (Nat.le_of_ble_eq_true rfl) (by omega) (kX12_isRunning (d - 1) (by omega) x0 x1 t0 v3 ev3) ?_
    refine r_if_eq 53 dX12_rings_41 (by decide) h (fun _ h => ?_) (fun _ h => ?_)
    · refine r_pick [] rfl ?_
      exact tX12_rings_b53 hdd τ2  _ h hQ
    · refine r_aload_n 1 dX12_rings_44 rfl ?_
      refine r_iload_n 2 dX12_rings_45 rfl ?_
      refine r_iload_n 0 dX12_rings_46 rfl ?_
      obtain ⟨v4, ev4, h⟩ := bd0_some h
      refine q_cVI [.int x1, .int s0] dX12_rings_47 cv_X12_360 (ci := 11) rfl rfl t0 rfl rfl (Nat.le_of_ble_eq_true rfl) (by omega) (kX12_ringBits (d - 1) (by omega) x0 x1 s0 t0 v4 ev4) ?_
      refine r_goto 54 dX12_rings_50 (by decide) ?_
      refine r_pick [] rfl ?_
      exact tX12_rings_b54 hdd τ2 v4  _ h hQ
theorem kX12_rings {l : Launch} {G : gg} {Γ : ly} {σ : mm} (d : Nat) (hdd : 3 ≤ d) (x0 : Nat) (x1 : Int32) (t0 : tyOK Γ (0, 11) x0) (r : (Int32 × mm)) (h : fX12_rings Γ.2 σ x0 x1 = some r) : CT l G yX12_rings cX12_rings 3 (some .int) d 0 0 [.ref (G.2.1 x0), .int x1] Γ σ (PP (some (.int r.1)) Γ r.2) := by
  refine CT.ofWP (by decide) (Nat.le_of_ble_eq_true rfl) ?_
  have hQ : PP (some (.int r.1)) Γ r.2 (some (.int r.1)) Γ r.2 := PP.self
  generalize PP (some (.int r.1)) Γ r.2 = Q at hQ ⊢
  show WP l G yX12_rings cX12_rings 3 (some .int) d 0 0 Q 0 0 0 [(0, .ref (G.2.1 x0)), (1, .int x1)] [] Γ σ
  unfold fX12_rings at h
  refine r_aload_n 0 dX12_rings_0 rfl ?_
  refine q_getR (e9 := (0, 8)) dX12_rings_1 fd_X12_10 t0 rfl h (fun r1 tr1 h => ?_)
  refine r_getI dX12_rings_4 fd_X12_120 tr1 ?_
  refine r_iconst (v := 1) dX12_rings_7 (by decide) ?_
  refine r_icmp_ne 21 dX12_rings_8 (by decide) h (fun _ h => ?_) (fun _ h => ?_)
  · refine r_iconst (v := -1) dX12_rings_21 (by decide) ?_
    exact tX12_rings_b22 hdd σ x0 x1 (-1 : Int32) t0 _ h hQ
  · refine r_aload_n 0 dX12_rings_11 rfl ?_
    refine q_getR (e9 := (0, 8)) dX12_rings_12 fd_X12_10 t0 rfl h (fun r2 tr2 h => ?_)
    obtain ⟨v3, ev3, h⟩ := bd0_some h
    refine q_cVI [] dX12_rings_15 cv_X12_357 (ci := 8) rfl rfl tr2 rfl rfl (Nat.le_of_ble_eq_true rfl) (by omega) (kX8_firstByte (d - 1) (by omega) r2 tr2 v3 ev3) ?_
    refine r_goto 22 dX12_rings_18 (by decide) ?_
    exact tX12_rings_b22 hdd σ x0 x1 v3 t0 _ h hQ
theorem tX12_drawn_b20 {l : Launch} {G : gg} {Γ : ly} {d : Nat} {Q : Option Value → ly → mm → Prop} (hdd : 7 ≤ d) (σ : mm)     (r : (Int32 × mm)) (h : fX12_drawn_b20 Γ.2 σ  = some r) (hQ : Q (some (.int r.1)) Γ r.2) : WP l G yX12_drawn cX12_drawn 4 (some .int) d 0 0 Q 0 0 20 [] [] Γ σ := by
  unfold fX12_drawn_b20 at h
  refine r_iconst (v := -1) dX12_drawn_20 (by decide) ?_
  obtain rfl := Option.some.inj h
  exact r_ireturn dX12_drawn_21 rfl hQ (Nat.le_refl _) (Nat.le_refl _)
theorem tX12_drawn_b55 {l : Launch} {G : gg} {Γ : ly} {d : Nat} {Q : Option Value → ly → mm → Prop} (hdd : 7 ≤ d) (σ : mm) (x3 : Int32)    (r : (Int32 × mm)) (h : fX12_drawn_b55 Γ.2 σ x3 = some r) (hQ : Q (some (.int r.1)) Γ r.2) : WP l G yX12_drawn cX12_drawn 4 (some .int) d 0 0 Q 0 0 55 [(3, .int x3)] [] Γ σ := by
  unfold fX12_drawn_b55 at h
  refine r_iload_n 0 dX12_drawn_55 rfl ?_
  obtain rfl := Option.some.inj h
  exact r_ireturn dX12_drawn_56 rfl hQ (Nat.le_refl _) (Nat.le_refl _)
theorem kX12_drawn {l : Launch} {G : gg} {Γ : ly} {σ : mm} (d : Nat) (hdd : 7 ≤ d) (x0 : Nat) (x1 : Int32) (x2 : Int32) (t0 : tyOK Γ (0, 11) x0) (r : (Int32 × mm)) (h : fX12_drawn Γ.2 σ x0 x1 x2 = some r) : CT l G yX12_drawn cX12_drawn 4 (some .int) d 0 0 [.ref (G.2.1 x0), .int x1, .int x2] Γ σ (PP (some (.int r.1)) Γ r.2) := by
  refine CT.ofWP (by decide) (Nat.le_of_ble_eq_true rfl) ?_
  have hQ : PP (some (.int r.1)) Γ r.2 (some (.int r.1)) Γ r.2 := PP.self
  generalize PP (some (.int r.1)) Γ r.2 = Q at hQ ⊢
  show WP l G yX12_drawn cX12_drawn 4 (some .int) d 0 0 Q 0 0 0 [(0, .ref (G.2.1 x0)), (1, .int x1), (2, .int x2)] [] Γ σ
  unfold fX12_drawn at h
  refine r_iconst (v := 1) dX12_drawn_0 (by decide) ?_
  refine r_bipush (v := 60) dX12_drawn_1 (by decide) ?_
  refine r_iload_n 1 dX12_drawn_3 rfl ?_
  obtain ⟨v1, ev1, h⟩ := bd0_some h
  refine q_cSI [.int (1 : Int32), .int (60 : Int32), .int x1] dX12_drawn_4 cs_X12_268 rfl rfl (Nat.le_of_ble_eq_true rfl) (by omega) (kX12_isFrom (d - 1) (by omega) (1 : Int32) (60 : Int32) x1  v1 ev1) ?_
  refine r_if_eq 20 dX12_drawn_7 (by decide) h (fun _ h => ?_) (fun _ h => ?_)
  · refine r_pick [] rfl ?_
    exact tX12_drawn_b20 hdd σ  _ h hQ
  · refine r_aload_n 0 dX12_drawn_10 rfl ?_
    refine q_getR (e9 := (0, 4)) dX12_drawn_11 fd_X12_19 t0 rfl h (fun r2 tr2 h => ?_)
    refine r_getI dX12_drawn_14 fd_X12_235 tr2 ?_
    refine r_if_ne 22 dX12_drawn_17 (by decide) h (fun _ h => ?_) (fun _ h => ?_)
    · refine r_aload_n 0 dX12_drawn_22 rfl ?_
      refine q_getR (e9 := (0, 3)) dX12_drawn_23 fd_X12_40 t0 rfl h (fun r3 tr3 h => ?_)
      refine r_iload_n 1 dX12_drawn_26 rfl ?_
      obtain ⟨v4, ev4, h⟩ := bd0_some h
      refine q_cVI [.int x1] dX12_drawn_27 cv_X12_283 (ci := 3) rfl rfl tr3 rfl rfl (Nat.le_of_ble_eq_true rfl) (by omega) (kX3_hoursOf (d - 1) (by omega) r3 x1 tr3 v4 ev4) ?_
      refine r_istore_n (lv' := [(3, .int v4), (0, .ref (G.2.1 x0)), (1, .int x1), (2, .int x2)]) dX12_drawn_30 (by decide) rfl ?_
      refine r_iload_n 0 dX12_drawn_31 rfl ?_
      refine r_if_le 55 dX12_drawn_32 (by decide) h (fun _ h => ?_) (fun _ h => ?_)
      · refine r_pick [0] rfl ?_
        exact tX12_drawn_b55 hdd σ v4  _ h hQ
      · refine r_aload_n 1 dX12_drawn_35 rfl ?_
        refine q_getR (e9 := (0, 9)) dX12_drawn_36 fd_X12_50 t0 rfl h (fun r5 tr5 h => ?_)
        refine r_aload_n 1 dX12_drawn_39 rfl ?_
        refine q_getR (e9 := (0, 3)) dX12_drawn_40 fd_X12_40 t0 rfl h (fun r6 tr6 h => ?_)
        obtain ⟨τ7, eτ7, h⟩ := bd0_some h
        refine q_cVV [.ref (G.2.1 r6)] dX12_drawn_43 cv_X12_275 (ci := 9) rfl rfl tr5 rfl rfl (Nat.le_of_ble_eq_true rfl) (by omega) (kX9_keep (d - 1) (by omega) r5 r6 tr5 tr6 τ7 eτ7) ?_
        refine r_aload_n 1 dX12_drawn_46 rfl ?_
        refine q_getR (e9 := (0, 3)) dX12_drawn_47 fd_X12_40 t0 rfl h (fun r8 tr8 h => ?_)
        refine r_iload_n 0 dX12_drawn_50 rfl ?_
        refine r_iload_n 3 dX12_drawn_51 rfl ?_
        obtain ⟨τ9, eτ9, h⟩ := bd0_some h
        refine q_cVV [.int v4, .int x2] dX12_drawn_52 cv_X12_408 (ci := 3) rfl rfl tr8 rfl rfl (Nat.le_of_ble_eq_true rfl) (by omega) (kX3_drawHours (d - 1) (by omega) r8 v4 x2 tr8 τ9 eτ9) ?_
        refine r_pick [0] rfl ?_
        exact tX12_drawn_b55 hdd τ9 v4  _ h hQ
    · refine r_pick [] rfl ?_
      exact tX12_drawn_b20 hdd σ  _ h hQ
theorem tX12_odds_b21 {l : Launch} {G : gg} {Γ : ly} {d : Nat} {Q : Option Value → ly → mm → Prop} (hdd : 7 ≤ d) (σ : mm)     (r : (Int32 × mm)) (h : fX12_odds_b21 Γ.2 σ  = some r) (hQ : Q (some (.int r.1)) Γ r.2) : WP l G yX12_odds cX12_odds 6 (some .int) d 0 0 Q 0 0 21 [] [] Γ σ := by
  unfold fX12_odds_b21 at h
  refine r_iconst (v := -1) dX12_odds_21 (by decide) ?_
  obtain rfl := Option.some.inj h
  exact r_ireturn dX12_odds_22 rfl hQ (Nat.le_refl _) (Nat.le_refl _)
theorem tX12_odds_b80 {l : Launch} {G : gg} {Γ : ly} {d : Nat} {Q : Option Value → ly → mm → Prop} (hdd : 7 ≤ d) (σ : mm) (x0 : Nat) (x1 : Int32) (x2 : Int32) (x3 : Int32) (x4 : Int32) (x5 : Int32)  (t0 : tyOK Γ (0, 11) x0)  (r : ((Int32 × Int32 × mm) ⊕ (Int32 × mm))) (h : fX12_odds_b80 Γ.2 σ x0 x1 x2 x3 x4 x5 = some r) (hb : ∀ (x4 : Int32) (x5 : Int32) (σ9 : mm), r = .inl (x4, x5, σ9) → WP l G yX12_odds cX12_odds 6 (some .int) d 0 0 Q 0 0 29 [(0, .ref (G.2.1 x0)), (1, .int x1), (2, .int x2), (3, .int x3), (4, .int x4), (5, .int x5)] [] Γ σ9) (hx0 : ∀ (x4 : Int32) (σ9 : mm), r = .inr (x4, σ9) → WP l G yX12_odds cX12_odds 6 (some .int) d 0 0 Q 0 0 86 [(4, .int x4)] [] Γ σ9) : WP l G yX12_odds cX12_odds 6 (some .int) d 0 0 Q 0 0 80 [(0, .ref (G.2.1 x0)), (1, .int x1), (2, .int x2), (3, .int x3), (4, .int x4), (5, .int x5)] [] Γ σ := by
  unfold fX12_odds_b80 at h
  refine q_iinc (v := 1) 5 (fun v1 => [(5, .int v1), (0, .ref (G.2.1 x0)), (1, .int x1), (2, .int x2), (3, .int x3), (4, .int x4)]) dX12_odds_80 rfl (by decide) (by decide) (fun _ => rfl) h (fun v1 h => ?_)
  refine r_goto 29 dX12_odds_83 (by decide) ?_
  obtain rfl := Option.some.inj h
  refine r_pick [1, 2, 3, 4, 5, 0] rfl ?_
  exact hb _ _ _ rfl
theorem sX12_odds_L29 {l : Launch} {G : gg} {Γ : ly} {d : Nat} {Q : Option Value → ly → mm → Prop} (hdd : 7 ≤ d) (x0 : Nat) (x1 : Int32) (x2 : Int32) (x3 : Int32) (t0 : tyOK Γ (0, 11) x0) {K : (Int32 × mm) → Prop} (kx0 : ∀ (x4 : Int32) (σ9 : mm), K (x4, σ9) → WP l G yX12_odds cX12_odds 6 (some .int) d 0 0 Q 0 0 86 [(4, .int x4)] [] Γ σ9) : ∀ (N : Nat) (s : (Int32 × Int32 × mm)) (b : (Int32 × mm)), loopN (fX12_odds_L29 Γ.2 x0 x1 x2 x3) N s = some b → K b → WP l G yX12_odds cX12_odds 6 (some .int) d 0 0 Q 0 0 29 [(0, .ref (G.2.1 x0)), (1, .int x1), (2, .int x2), (3, .int x3), (4, .int s.1), (5, .int s.2.1)] [] Γ s.2.2 := by
  refine r_loop (f := fX12_odds_L29 Γ.2 x0 x1 x2 x3) (hlv := fun s => [(0, .ref (G.2.1 x0)), (1, .int x1), (2, .int x2), (3, .int x3), (4, .int s.1), (5, .int s.2.1)]) (hsg := fun s => s.2.2) ?_
  rintro ⟨x4, x5, σ⟩ r h hb hx
  have hb : ∀ (x4 : Int32) (x5 : Int32) (σ : mm), r = .inl (x4, x5, σ) → WP l G yX12_odds cX12_odds 6 (some .int) d 0 0 Q 0 0 29 [(0, .ref (G.2.1 x0)), (1, .int x1), (2, .int x2), (3, .int x3), (4, .int x4), (5, .int x5)] [] Γ σ := fun x4 x5 σ e => hb (x4, x5, σ) e
  have hx0 : ∀ (x4 : Int32) (σ9 : mm), r = .inr (x4, σ9) → WP l G yX12_odds cX12_odds 6 (some .int) d 0 0 Q 0 0 86 [(4, .int x4)] [] Γ σ9 := fun x4 σ9 e => kx0 x4 σ9 (hx _ e)
  unfold fX12_odds_L29 at h
  have h := un3_some h
  show WP l G yX12_odds cX12_odds 6 (some .int) d 0 0 Q 0 0 29 [(0, .ref (G.2.1 x0)), (1, .int x1), (2, .int x2), (3, .int x3), (4, .int x4), (5, .int x5)] [] Γ σ
  refine r_iload 5 dX12_odds_29 rfl ?_
  refine r_iload_n 2 dX12_odds_31 rfl ?_
  refine r_icmp_ge 86 dX12_odds_32 (by decide) h (fun _ h => ?_) (fun _ h => ?_)
  · obtain rfl := Option.some.inj h
    refine r_pick [4] rfl ?_
    exact hx0 _ _ rfl
  · refine r_aload_n 0 dX12_odds_35 rfl ?_
    refine q_getR (e9 := (0, 3)) dX12_odds_36 fd_X12_44 t0 rfl h (fun r1 tr1 h => ?_)
    refine r_aload_n 0 dX12_odds_39 rfl ?_
    refine q_getR (e9 := (0, 3)) dX12_odds_40 fd_X12_40 t0 rfl h (fun r2 tr2 h => ?_)
    obtain ⟨τ3, eτ3, h⟩ := bd0_some h
    refine q_cVV [.ref (G.2.1 r2)] dX12_odds_43 cv_X12_412 (ci := 3) rfl rfl tr1 rfl rfl (Nat.le_of_ble_eq_true rfl) (by omega) (kX3_copyFrom (d - 1) (by omega) r1 r2 tr1 tr2 τ3 eτ3) ?_
    refine r_aload_n 0 dX12_odds_46 rfl ?_
    refine q_getR (e9 := (0, 3)) dX12_odds_47 fd_X12_44 t0 rfl h (fun r4 tr4 h => ?_)
    refine r_aload_n 0 dX12_odds_50 rfl ?_
    refine q_getR (e9 := (0, 3)) dX12_odds_51 fd_X12_44 t0 rfl h (fun r5 tr5 h => ?_)
    refine r_bipush (v := 48) dX12_odds_54 (by decide) ?_
    obtain ⟨v6, ev6, h⟩ := bd0_some h
    refine q_cVI [.int (48 : Int32)] dX12_odds_56 cv_X12_283 (ci := 3) rfl rfl tr5 rfl rfl (Nat.le_of_ble_eq_true rfl) (by omega) (kX3_hoursOf (d - 1) (by omega) r5 (48 : Int32) tr5 v6 ev6) ?_
    refine r_iload_n 3 dX12_odds_59 rfl ?_
    refine r_iload 5 dX12_odds_60 rfl ?_
    refine r_iadd dX12_odds_62 ?_
    obtain ⟨τ7, eτ7, h⟩ := bd0_some h
    refine q_cVV [.int v6, .int (x3 + x5)] dX12_odds_63 cv_X12_408 (ci := 3) rfl rfl tr4 rfl rfl (Nat.le_of_ble_eq_true rfl) (by omega) (kX3_drawHours (d - 1) (by omega) r4 v6 (x3 + x5) tr4 τ7 eτ7) ?_
    refine r_aload_n 0 dX12_odds_66 rfl ?_
    refine q_getR (e9 := (0, 3)) dX12_odds_67 fd_X12_44 t0 rfl h (fun r8 tr8 h => ?_)
    refine r_iload_n 1 dX12_odds_70 rfl ?_
    obtain ⟨v9, ev9, h⟩ := bd0_some h
    refine q_cVI [.int x1] dX12_odds_71 cv_X12_204 (ci := 3) rfl rfl tr8 rfl rfl (Nat.le_of_ble_eq_true rfl) (by omega) (kX3_isLapsed (d - 1) (by omega) r8 x1 tr8 v9 ev9) ?_
    refine r_if_ne 80 dX12_odds_74 (by decide) h (fun _ h => ?_) (fun _ h => ?_)
    · exact tX12_odds_b80 hdd τ7 x0 x1 x2 x3 x4 x5 t0 _ h hb hx0
    · refine q_iinc (v := 1) 4 (fun v10 => [(4, .int v10), (0, .ref (G.2.1 x0)), (1, .int x1), (2, .int x2), (3, .int x3), (5, .int x5)]) dX12_odds_77 rfl (by decide) (by decide) (fun _ => rfl) h (fun v10 h => ?_)
      refine r_pick [1, 2, 3, 4, 0, 5] rfl ?_
      exact tX12_odds_b80 hdd τ7 x0 x1 x2 x3 v10 x5 t0 _ h hb hx0
theorem kX12_odds {l : Launch} {G : gg} {Γ : ly} {σ : mm} (d : Nat) (hdd : 7 ≤ d) (x0 : Nat) (x1 : Int32) (x2 : Int32) (x3 : Int32) (t0 : tyOK Γ (0, 11) x0) (r : (Int32 × mm)) (h : fX12_odds Γ.2 σ x0 x1 x2 x3 = some r) : CT l G yX12_odds cX12_odds 6 (some .int) d 0 0 [.ref (G.2.1 x0), .int x1, .int x2, .int x3] Γ σ (PP (some (.int r.1)) Γ r.2) := by
  refine CT.ofWP (by decide) (Nat.le_of_ble_eq_true rfl) ?_
  have hQ : PP (some (.int r.1)) Γ r.2 (some (.int r.1)) Γ r.2 := PP.self
  generalize PP (some (.int r.1)) Γ r.2 = Q at hQ ⊢
  show WP l G yX12_odds cX12_odds 6 (some .int) d 0 0 Q 0 0 0 [(0, .ref (G.2.1 x0)), (1, .int x1), (2, .int x2), (3, .int x3)] [] Γ σ
  unfold fX12_odds at h
  refine r_aload_n 0 dX12_odds_0 rfl ?_
  refine q_getR (e9 := (0, 4)) dX12_odds_1 fd_X12_19 t0 rfl h (fun r1 tr1 h => ?_)
  refine r_iload_n 1 dX12_odds_4 rfl ?_
  obtain ⟨v2, ev2, h⟩ := bd0_some h
  refine q_cVI [.int x1] dX12_odds_5 cv_X12_181 (ci := 4) rfl rfl tr1 rfl rfl (Nat.le_of_ble_eq_true rfl) (by omega) (kX4_hasGlass (d - 1) (by omega) r1 x1 tr1 v2 ev2) ?_
  refine r_if_eq 21 dX12_odds_8 (by decide) h (fun _ h => ?_) (fun _ h => ?_)
  · refine r_pick [] rfl ?_
    exact tX12_odds_b21 hdd σ  _ h hQ
  · refine r_iconst (v := 1) dX12_odds_11 (by decide) ?_
    refine r_bipush (v := 30) dX12_odds_12 (by decide) ?_
    refine r_iload_n 2 dX12_odds_14 rfl ?_
    obtain ⟨v3, ev3, h⟩ := bd0_some h
    refine q_cSI [.int (1 : Int32), .int (30 : Int32), .int x2] dX12_odds_15 cs_X12_268 rfl rfl (Nat.le_of_ble_eq_true rfl) (by omega) (kX12_isFrom (d - 1) (by omega) (1 : Int32) (30 : Int32) x2  v3 ev3) ?_
    refine r_if_ne 23 dX12_odds_18 (by decide) h (fun _ h => ?_) (fun _ h => ?_)
    · refine r_iconst (v := 0) dX12_odds_23 (by decide) ?_
      refine r_istore (lv' := [(4, .int (0 : Int32)), (0, .ref (G.2.1 x0)), (1, .int x1), (2, .int x2), (3, .int x3)]) dX12_odds_24 (by decide) rfl ?_
      refine r_iconst (v := 0) dX12_odds_26 (by decide) ?_
      refine r_istore (lv' := [(5, .int (0 : Int32)), (4, .int (0 : Int32)), (0, .ref (G.2.1 x0)), (1, .int x1), (2, .int x2), (3, .int x3)]) dX12_odds_27 (by decide) rfl ?_
      obtain ⟨b4, eb4, h⟩ := bd0_some h
      refine r_pick [2, 3, 4, 5, 1, 0] rfl ?_
      refine sX12_odds_L29 hdd x0 x1 x2 x3 t0 (K := fun b => b = b4) ?_ 1000 ((0 : Int32), (0 : Int32), σ) b4 eb4 rfl
      rintro v5 τ6 rfl
      have h := un2_some h
      refine r_iload 0 dX12_odds_86 rfl ?_
      obtain rfl := Option.some.inj h
      exact r_ireturn dX12_odds_88 rfl hQ (Nat.le_refl _) (Nat.le_refl _)
    · refine r_pick [] rfl ?_
      exact tX12_odds_b21 hdd σ  _ h hQ
theorem tX12_roll_b115 {l : Launch} {G : gg} {Γ : ly} {d : Nat} {Q : Option Value → ly → mm → Prop} (hdd : 7 ≤ d) (σ : mm) (x3 : Int32)    (r : (Int32 × mm)) (h : fX12_roll_b115 Γ.2 σ x3 = some r) (hQ : Q (some (.int r.1)) Γ r.2) : WP l G yX12_roll cX12_roll 4 (some .int) d 0 0 Q 0 0 115 [(3, .int x3)] [] Γ σ := by
  unfold fX12_roll_b115 at h
  refine r_iload_n 0 dX12_roll_115 rfl ?_
  obtain rfl := Option.some.inj h
  exact r_ireturn dX12_roll_116 rfl hQ (Nat.le_refl _) (Nat.le_refl _)
theorem tX12_roll_b13 {l : Launch} {G : gg} {Γ : ly} {d : Nat} {Q : Option Value → ly → mm → Prop} (hdd : 7 ≤ d) (σ : mm) (x0 : Nat) (x1 : Int32)  (t0 : tyOK Γ (0, 11) x0)  (r : (Int32 × mm)) (h : fX12_roll_b13 Γ.2 σ x0 x1 = some r) (hQ : Q (some (.int r.1)) Γ r.2) : WP l G yX12_roll cX12_roll 4 (some .int) d 0 0 Q 0 0 13 [(0, .ref (G.2.1 x0)), (1, .int x1)] [] Γ σ := by
  unfold fX12_roll_b13 at h
  refine r_aload_n 0 dX12_roll_13 rfl ?_
  refine q_getR (e9 := (0, 6)) dX12_roll_14 fd_X12_75 t0 rfl h (fun r1 tr1 h => ?_)
  obtain ⟨v2, τ3, ev2, h⟩ := bd2_some h
  refine q_cVI [] dX12_roll_17 cv_X12_414 (ci := 6) rfl rfl tr1 rfl rfl (Nat.le_of_ble_eq_true rfl) (by omega) (kX6_read (d - 1) (by omega) r1 tr1 (v2, τ3) ev2) ?_
  refine r_istore_n (lv' := [(2, .int v2), (0, .ref (G.2.1 x0)), (1, .int x1)]) dX12_roll_20 (by decide) rfl ?_
  refine r_aload_n 1 dX12_roll_21 rfl ?_
  refine r_aload_n 1 dX12_roll_22 rfl ?_
  refine q_getR (e9 := (0, 8)) dX12_roll_23 fd_X12_10 t0 rfl h (fun r4 tr4 h => ?_)
  refine r_getI dX12_roll_26 fd_X12_128 tr4 ?_
  refine q_putI dX12_roll_29 fd_X12_131 t0 h (fun τ5 h => ?_)
  refine r_aload_n 1 dX12_roll_32 rfl ?_
  refine q_getR (e9 := (0, 8)) dX12_roll_33 fd_X12_10 t0 rfl h (fun r6 tr6 h => ?_)
  refine r_iconst (v := 0) dX12_roll_36 (by decide) ?_
  refine q_putI dX12_roll_37 fd_X12_120 tr6 h (fun τ7 h => ?_)
  refine r_iload_n 0 dX12_roll_40 rfl ?_
  refine r_if_ne 55 dX12_roll_41 (by decide) h (fun _ h => ?_) (fun _ h => ?_)
  · refine r_aload_n 1 dX12_roll_55 rfl ?_
    refine q_getR (e9 := (0, 3)) dX12_roll_56 fd_X12_44 t0 rfl h (fun r8 tr8 h => ?_)
    refine r_aload_n 1 dX12_roll_59 rfl ?_
    refine q_getR (e9 := (0, 3)) dX12_roll_60 fd_X12_40 t0 rfl h (fun r9 tr9 h => ?_)
    obtain ⟨τ10, eτ10, h⟩ := bd0_some h
    refine q_cVV [.ref (G.2.1 r9)] dX12_roll_63 cv_X12_412 (ci := 3) rfl rfl tr8 rfl rfl (Nat.le_of_ble_eq_true rfl) (by omega) (kX3_copyFrom (d - 1) (by omega) r8 r9 tr8 tr9 τ10 eτ10) ?_
    refine r_aload_n 1 dX12_roll_66 rfl ?_
    refine q_getR (e9 := (0, 6)) dX12_roll_67 fd_X12_75 t0 rfl h (fun r11 tr11 h => ?_)
    refine r_aload_n 1 dX12_roll_70 rfl ?_
    refine q_getR (e9 := (0, 3)) dX12_roll_71 fd_X12_44 t0 rfl h (fun r12 tr12 h => ?_)
    obtain ⟨v13, τ14, ev13, h⟩ := bd2_some h
    refine q_cVI [.ref (G.2.1 r12)] dX12_roll_74 cv_X12_419 (ci := 6) rfl rfl tr11 rfl rfl (Nat.le_of_ble_eq_true rfl) (by omega) (kX6_judge (d - 1) (by omega) r11 r12 tr11 tr12 (v13, τ14) ev13) ?_
    refine r_istore_n (lv' := [(3, .int v13), (2, .int v2), (0, .ref (G.2.1 x0)), (1, .int x1)]) dX12_roll_77 (by decide) rfl ?_
    refine r_iload_n 3 dX12_roll_78 rfl ?_
    refine r_iconst (v := 1) dX12_roll_79 (by decide) ?_
    refine r_icmp_ne 115 dX12_roll_80 (by decide) h (fun _ h => ?_) (fun _ h => ?_)
    · refine r_pick [0] rfl ?_
      exact tX12_roll_b115 hdd τ14 v13  _ h hQ
    · refine r_aload_n 2 dX12_roll_83 rfl ?_
      refine q_getR (e9 := (0, 6)) dX12_roll_84 fd_X12_75 t0 rfl h (fun r15 tr15 h => ?_)
      refine r_getI dX12_roll_87 fd_X12_422 tr15 ?_
      refine r_if_le 115 dX12_roll_90 (by decide) h (fun _ h => ?_) (fun _ h => ?_)
      · refine r_pick [0] rfl ?_
        exact tX12_roll_b115 hdd τ14 v13  _ h hQ
      · refine r_aload_n 2 dX12_roll_93 rfl ?_
        refine q_getR (e9 := (0, 9)) dX12_roll_94 fd_X12_50 t0 rfl h (fun r16 tr16 h => ?_)
        refine r_aload_n 2 dX12_roll_97 rfl ?_
        refine q_getR (e9 := (0, 3)) dX12_roll_98 fd_X12_40 t0 rfl h (fun r17 tr17 h => ?_)
        obtain ⟨τ18, eτ18, h⟩ := bd0_some h
        refine q_cVV [.ref (G.2.1 r17)] dX12_roll_101 cv_X12_275 (ci := 9) rfl rfl tr16 rfl rfl (Nat.le_of_ble_eq_true rfl) (by omega) (kX9_keep (d - 1) (by omega) r16 r17 tr16 tr17 τ18 eτ18) ?_
        refine r_aload_n 2 dX12_roll_104 rfl ?_
        refine q_getR (e9 := (0, 3)) dX12_roll_105 fd_X12_40 t0 rfl h (fun r19 tr19 h => ?_)
        refine r_aload_n 2 dX12_roll_108 rfl ?_
        refine q_getR (e9 := (0, 3)) dX12_roll_109 fd_X12_44 t0 rfl h (fun r20 tr20 h => ?_)
        obtain ⟨τ21, eτ21, h⟩ := bd0_some h
        refine q_cVV [.ref (G.2.1 r20)] dX12_roll_112 cv_X12_412 (ci := 3) rfl rfl tr19 rfl rfl (Nat.le_of_ble_eq_true rfl) (by omega) (kX3_copyFrom (d - 1) (by omega) r19 r20 tr19 tr20 τ21 eτ21) ?_
        refine r_pick [0] rfl ?_
        exact tX12_roll_b115 hdd τ21 v13  _ h hQ
  · refine r_bipush (v := -2) dX12_roll_44 (by decide) ?_
    refine r_aload_n 1 dX12_roll_46 rfl ?_
    refine q_getR (e9 := (0, 8)) dX12_roll_47 fd_X12_10 t0 rfl h (fun r22 tr22 h => ?_)
    refine r_getI dX12_roll_50 fd_X12_416 tr22 ?_
    refine r_isub dX12_roll_53 ?_
    obtain rfl := Option.some.inj h
    exact r_ireturn dX12_roll_54 rfl hQ (Nat.le_refl _) (Nat.le_refl _)
theorem kX12_roll {l : Launch} {G : gg} {Γ : ly} {σ : mm} (d : Nat) (hdd : 7 ≤ d) (x0 : Nat) (x1 : Int32) (t0 : tyOK Γ (0, 11) x0) (r : (Int32 × mm)) (h : fX12_roll Γ.2 σ x0 x1 = some r) : CT l G yX12_roll cX12_roll 4 (some .int) d 0 0 [.ref (G.2.1 x0), .int x1] Γ σ (PP (some (.int r.1)) Γ r.2) := by
  refine CT.ofWP (by decide) (Nat.le_of_ble_eq_true rfl) ?_
  have hQ : PP (some (.int r.1)) Γ r.2 (some (.int r.1)) Γ r.2 := PP.self
  generalize PP (some (.int r.1)) Γ r.2 = Q at hQ ⊢
  show WP l G yX12_roll cX12_roll 4 (some .int) d 0 0 Q 0 0 0 [(0, .ref (G.2.1 x0)), (1, .int x1)] [] Γ σ
  unfold fX12_roll at h
  refine r_iload_n 1 dX12_roll_0 rfl ?_
  refine r_if_eq 13 dX12_roll_1 (by decide) h (fun _ h => ?_) (fun _ h => ?_)
  · exact tX12_roll_b13 hdd σ x0 x1 t0 _ h hQ
  · refine r_iload_n 1 dX12_roll_4 rfl ?_
    refine r_iconst (v := 1) dX12_roll_5 (by decide) ?_
    refine r_icmp_eq 13 dX12_roll_6 (by decide) h (fun _ h => ?_) (fun _ h => ?_)
    · exact tX12_roll_b13 hdd σ x0 x1 t0 _ h hQ
    · refine r_sipush (v := -1000) dX12_roll_9 (by decide) ?_
      obtain rfl := Option.some.inj h
      exact r_ireturn dX12_roll_12 rfl hQ (Nat.le_refl _) (Nat.le_refl _)
theorem kX12_rolled {l : Launch} {G : gg} {Γ : ly} {σ : mm} (d : Nat) (hdd : 1 ≤ d) (x0 : Nat) (x1 : Int32) (t0 : tyOK Γ (0, 11) x0) (r : Int32) (h : fX12_rolled Γ.2 σ x0 x1 = some r) : CT l G yX12_rolled cX12_rolled 2 (some .int) d 0 0 [.ref (G.2.1 x0), .int x1] Γ σ (PP (some (.int r)) Γ σ) := by
  refine CT.ofWP (by decide) (Nat.le_of_ble_eq_true rfl) ?_
  have hQ : PP (some (.int r)) Γ σ (some (.int r)) Γ σ := PP.self
  generalize PP (some (.int r)) Γ σ = Q at hQ ⊢
  show WP l G yX12_rolled cX12_rolled 2 (some .int) d 0 0 Q 0 0 0 [(0, .ref (G.2.1 x0)), (1, .int x1)] [] Γ σ
  unfold fX12_rolled at h
  refine r_aload_n 0 dX12_rolled_0 rfl ?_
  refine q_getR (e9 := (0, 6)) dX12_rolled_1 fd_X12_75 t0 rfl h (fun r1 tr1 h => ?_)
  refine r_iload_n 1 dX12_rolled_4 rfl ?_
  obtain ⟨v2, ev2, h⟩ := bd0_some h
  refine q_cVI [.int x1] dX12_rolled_5 cv_X12_425 (ci := 6) rfl rfl tr1 rfl rfl (Nat.le_of_ble_eq_true rfl) (by omega) (kX6_told (d - 1) (by omega) r1 x1 tr1 v2 ev2) ?_
  obtain rfl := Option.some.inj h
  exact r_ireturn dX12_rolled_8 rfl hQ (Nat.le_refl _) (Nat.le_refl _)
theorem kX12_sentence {l : Launch} {G : gg} {Γ : ly} {σ : mm} (d : Nat) (hdd : 105 ≤ d) (x0 : Nat) (t0 : tyOK Γ (0, 11) x0) (r : (Int32 × mm)) (h : fX12_sentence Γ.2 σ x0 = some r) : CT l G yX12_sentence cX12_sentence 2 (some .int) d 0 0 [.ref (G.2.1 x0)] Γ σ (PP (some (.int r.1)) Γ r.2) := by
  refine CT.ofWP (by decide) (Nat.le_of_ble_eq_true rfl) ?_
  have hQ : PP (some (.int r.1)) Γ r.2 (some (.int r.1)) Γ r.2 := PP.self
  generalize PP (some (.int r.1)) Γ r.2 = Q at hQ ⊢
  show WP l G yX12_sentence cX12_sentence 2 (some .int) d 0 0 Q 0 0 0 [(0, .ref (G.2.1 x0))] [] Γ σ
  unfold fX12_sentence at h
  refine r_aload_n 0 dX12_sentence_0 rfl ?_
  refine q_getR (e9 := (0, 7)) dX12_sentence_1 fd_X12_86 t0 rfl h (fun r1 tr1 h => ?_)
  refine r_aload_n 0 dX12_sentence_4 rfl ?_
  refine q_getR (e9 := (0, 8)) dX12_sentence_5 fd_X12_10 t0 rfl h (fun r2 tr2 h => ?_)
  refine r_aload_n 0 dX12_sentence_8 rfl ?_
  refine q_getR (e9 := (0, 4)) dX12_sentence_9 fd_X12_19 t0 rfl h (fun r3 tr3 h => ?_)
  obtain ⟨v4, τ5, ev4, h⟩ := bd2_some h
  refine q_cVI [.ref (G.2.1 r2), .ref (G.2.1 r3)] dX12_sentence_12 cv_X12_428 (ci := 7) rfl rfl tr1 rfl rfl (Nat.le_of_ble_eq_true rfl) (by omega) (kX7_read (d - 1) (by omega) r1 r2 r3 tr1 tr2 tr3 (v4, τ5) ev4) ?_
  refine r_istore_n (lv' := [(1, .int v4), (0, .ref (G.2.1 x0))]) dX12_sentence_15 (by decide) rfl ?_
  refine r_aload_n 1 dX12_sentence_16 rfl ?_
  refine r_aload_n 1 dX12_sentence_17 rfl ?_
  refine q_getR (e9 := (0, 8)) dX12_sentence_18 fd_X12_10 t0 rfl h (fun r6 tr6 h => ?_)
  refine r_getI dX12_sentence_21 fd_X12_128 tr6 ?_
  refine q_putI dX12_sentence_24 fd_X12_131 t0 h (fun τ7 h => ?_)
  refine r_aload_n 1 dX12_sentence_27 rfl ?_
  refine q_getR (e9 := (0, 8)) dX12_sentence_28 fd_X12_10 t0 rfl h (fun r8 tr8 h => ?_)
  refine r_iconst (v := 0) dX12_sentence_31 (by decide) ?_
  refine q_putI dX12_sentence_32 fd_X12_120 tr8 h (fun τ9 h => ?_)
  refine r_iload_n 0 dX12_sentence_35 rfl ?_
  refine r_if_ne 49 dX12_sentence_36 (by decide) h (fun _ h => ?_) (fun _ h => ?_)
  · refine r_aload_n 1 dX12_sentence_49 rfl ?_
    refine q_getR (e9 := (0, 7)) dX12_sentence_50 fd_X12_82 t0 rfl h (fun r10 tr10 h => ?_)
    refine r_aload_n 1 dX12_sentence_53 rfl ?_
    refine q_getR (e9 := (0, 7)) dX12_sentence_54 fd_X12_86 t0 rfl h (fun r11 tr11 h => ?_)
    obtain ⟨τ12, eτ12, h⟩ := bd0_some h
    refine q_cVV [.ref (G.2.1 r11)] dX12_sentence_57 cv_X12_431 (ci := 7) rfl rfl tr10 rfl rfl (Nat.le_of_ble_eq_true rfl) (by omega) (kX7_copyFrom (d - 1) (by omega) r10 r11 tr10 tr11 τ12 eτ12) ?_
    refine r_aload_n 1 dX12_sentence_60 rfl ?_
    refine q_getR (e9 := (0, 7)) dX12_sentence_61 fd_X12_82 t0 rfl h (fun r13 tr13 h => ?_)
    refine r_getI dX12_sentence_64 fd_X12_434 tr13 ?_
    obtain rfl := Option.some.inj h
    exact r_ireturn dX12_sentence_67 rfl hQ (Nat.le_refl _) (Nat.le_refl _)
  · refine r_iconst (v := -1) dX12_sentence_39 (by decide) ?_
    refine r_aload_n 1 dX12_sentence_40 rfl ?_
    refine q_getR (e9 := (0, 8)) dX12_sentence_41 fd_X12_10 t0 rfl h (fun r14 tr14 h => ?_)
    refine r_getI dX12_sentence_44 fd_X12_416 tr14 ?_
    refine r_isub dX12_sentence_47 ?_
    obtain rfl := Option.some.inj h
    exact r_ireturn dX12_sentence_48 rfl hQ (Nat.le_refl _) (Nat.le_refl _)
