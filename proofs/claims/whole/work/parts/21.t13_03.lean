/-! the walks, 3 -/
theorem tX13_readDamp_b67 {l : Launch} {G : gg} {Γ : ly} {d : Nat} {Q : Option Value → ly → mm → Prop} (hdd : 3 ≤ d) (σ : mm)     (r : (Int32 × mm)) (h : fX13_readDamp_b67 Γ.2 σ  = some r) (hQ : Q (some (.int r.1)) Γ r.2) : WP l G yX13_readDamp cX13_readDamp 2 (some .boolean) d 0 0 Q 0 0 67 [] [] Γ σ := by
  unfold fX13_readDamp_b67 at h
  refine r_iconst (v := 0) dX13_readDamp_67 (by decide) ?_
  obtain rfl := Option.some.inj h
  exact r_zreturn dX13_readDamp_68 rfl (by decide) hQ (Nat.le_refl _) (Nat.le_refl _)
theorem kX13_readDamp {l : Launch} {G : gg} {Γ : ly} {σ : mm} (d : Nat) (hdd : 3 ≤ d) (x0 : Nat) (t0 : tyOK Γ (0, 12) x0) (r : (Int32 × mm)) (h : fX13_readDamp Γ.2 σ x0 = some r) : CT l G yX13_readDamp cX13_readDamp 2 (some .boolean) d 0 0 [.ref (G.2.1 x0)] Γ σ (PP (some (.int r.1)) Γ r.2) := by
  refine CT.ofWP (by decide) (Nat.le_of_ble_eq_true rfl) ?_
  have hQ : PP (some (.int r.1)) Γ r.2 (some (.int r.1)) Γ r.2 := PP.self
  generalize PP (some (.int r.1)) Γ r.2 = Q at hQ ⊢
  show WP l G yX13_readDamp cX13_readDamp 2 (some .boolean) d 0 0 Q 0 0 0 [(0, .ref (G.2.1 x0))] [] Γ σ
  unfold fX13_readDamp at h
  refine r_aload_n 0 dX13_readDamp_0 rfl ?_
  refine r_bipush (v := 7) dX13_readDamp_1 (by decide) ?_
  refine r_bipush (v := 6) dX13_readDamp_3 (by decide) ?_
  obtain ⟨v1, τ2, ev1, h⟩ := bd2_some h
  refine q_cVI [.int (7 : Int32), .int (6 : Int32)] dX13_readDamp_5 cv_X13_166 (ci := 12) rfl rfl t0 rfl rfl (Nat.le_of_ble_eq_true rfl) (by omega) (kX13_readFirst (d - 1) (by omega) x0 (7 : Int32) (6 : Int32) t0 (v1, τ2) ev1) ?_
  refine r_if_ne 13 dX13_readDamp_8 (by decide) h (fun _ h => ?_) (fun _ h => ?_)
  · refine r_aload_n 0 dX13_readDamp_13 rfl ?_
    refine q_getR (e9 := (1, 0)) dX13_readDamp_14 fd_X13_101 t0 rfl h (fun r3 tr3 h => ?_)
    refine r_bipush (v := 7) dX13_readDamp_17 (by decide) ?_
    refine q_iald dX13_readDamp_19 tr3 h (fun v4 h => ?_)
    refine r_istore_n (lv' := [(1, .int v4), (0, .ref (G.2.1 x0))]) dX13_readDamp_20 (by decide) rfl ?_
    refine r_aload_n 1 dX13_readDamp_21 rfl ?_
    refine r_bipush (v := 72) dX13_readDamp_22 (by decide) ?_
    refine r_iload_n 0 dX13_readDamp_24 rfl ?_
    refine r_iadd dX13_readDamp_25 ?_
    refine r_aload_n 1 dX13_readDamp_26 rfl ?_
    refine r_iconst (v := 0) dX13_readDamp_27 (by decide) ?_
    refine r_sipush (v := 599) dX13_readDamp_28 (by decide) ?_
    obtain ⟨v5, τ6, ev5, h⟩ := bd2_some h
    refine q_cVI [.int (0 : Int32), .int (599 : Int32)] dX13_readDamp_31 cv_X13_172 (ci := 12) rfl rfl t0 rfl rfl (Nat.le_of_ble_eq_true rfl) (by omega) (kX13_readNumber (d - 1) (by omega) x0 (0 : Int32) (599 : Int32) t0 (v5, τ6) ev5) ?_
    obtain ⟨v7, τ8, ev7, h⟩ := bd2_some h
    refine q_cVI [.int ((72 : Int32) + v4), .int v5] dX13_readDamp_34 cv_X13_175 (ci := 12) rfl rfl t0 rfl rfl (Nat.le_of_ble_eq_true rfl) (by omega) (kX13_put (d - 1) (by omega) x0 ((72 : Int32) + v4) v5 t0 (v7, τ8) ev7) ?_
    refine r_if_eq 67 dX13_readDamp_37 (by decide) h (fun _ h => ?_) (fun _ h => ?_)
    · refine r_pick [] rfl ?_
      exact tX13_readDamp_b67 hdd τ8  _ h hQ
    · refine r_aload_n 1 dX13_readDamp_40 rfl ?_
      refine r_bipush (v := 78) dX13_readDamp_41 (by decide) ?_
      refine r_iload_n 0 dX13_readDamp_43 rfl ?_
      refine r_iadd dX13_readDamp_44 ?_
      refine r_aload_n 1 dX13_readDamp_45 rfl ?_
      refine r_aload_n 1 dX13_readDamp_46 rfl ?_
      refine q_getR (e9 := (1, 0)) dX13_readDamp_47 fd_X13_101 t0 rfl h (fun r9 tr9 h => ?_)
      refine r_bipush (v := 72) dX13_readDamp_50 (by decide) ?_
      refine r_iload_n 0 dX13_readDamp_52 rfl ?_
      refine r_iadd dX13_readDamp_53 ?_
      refine q_iald dX13_readDamp_54 tr9 h (fun v10 h => ?_)
      refine r_sipush (v := 599) dX13_readDamp_55 (by decide) ?_
      obtain ⟨v11, τ12, ev11, h⟩ := bd2_some h
      refine q_cVI [.int v10, .int (599 : Int32)] dX13_readDamp_58 cv_X13_172 (ci := 12) rfl rfl t0 rfl rfl (Nat.le_of_ble_eq_true rfl) (by omega) (kX13_readNumber (d - 1) (by omega) x0 v10 (599 : Int32) t0 (v11, τ12) ev11) ?_
      obtain ⟨v13, τ14, ev13, h⟩ := bd2_some h
      refine q_cVI [.int ((78 : Int32) + v4), .int v11] dX13_readDamp_61 cv_X13_175 (ci := 12) rfl rfl t0 rfl rfl (Nat.le_of_ble_eq_true rfl) (by omega) (kX13_put (d - 1) (by omega) x0 ((78 : Int32) + v4) v11 t0 (v13, τ14) ev13) ?_
      refine r_if_ne 69 dX13_readDamp_64 (by decide) h (fun _ h => ?_) (fun _ h => ?_)
      · refine r_aload_n 1 dX13_readDamp_69 rfl ?_
        refine q_getR (e9 := (1, 0)) dX13_readDamp_70 fd_X13_101 t0 rfl h (fun r15 tr15 h => ?_)
        refine r_bipush (v := 7) dX13_readDamp_73 (by decide) ?_
        refine r_dup2 dX13_readDamp_75 rfl rfl ?_
        refine q_iald dX13_readDamp_76 tr15 h (fun v16 h => ?_)
        refine r_iconst (v := 1) dX13_readDamp_77 (by decide) ?_
        refine r_iadd dX13_readDamp_78 ?_
        refine q_iast dX13_readDamp_79 tr15 h (fun τ17 h => ?_)
        refine r_iconst (v := 1) dX13_readDamp_80 (by decide) ?_
        obtain rfl := Option.some.inj h
        exact r_zreturn dX13_readDamp_81 rfl (by decide) hQ (Nat.le_refl _) (Nat.le_refl _)
      · refine r_pick [] rfl ?_
        exact tX13_readDamp_b67 hdd τ14  _ h hQ
  · refine r_iconst (v := 0) dX13_readDamp_11 (by decide) ?_
    obtain rfl := Option.some.inj h
    exact r_zreturn dX13_readDamp_12 rfl (by decide) hQ (Nat.le_refl _) (Nat.le_refl _)
theorem tX13_readGood_b89 {l : Launch} {G : gg} {Γ : ly} {d : Nat} {Q : Option Value → ly → mm → Prop} (hdd : 5 ≤ d) (σ : mm)     (r : (Int32 × mm)) (h : fX13_readGood_b89 Γ.2 σ  = some r) (hQ : Q (some (.int r.1)) Γ r.2) : WP l G yX13_readGood cX13_readGood 2 (some .boolean) d 0 0 Q 0 0 89 [] [] Γ σ := by
  unfold fX13_readGood_b89 at h
  refine r_iconst (v := 0) dX13_readGood_89 (by decide) ?_
  obtain rfl := Option.some.inj h
  exact r_zreturn dX13_readGood_90 rfl (by decide) hQ (Nat.le_refl _) (Nat.le_refl _)
theorem kX13_readGood {l : Launch} {G : gg} {Γ : ly} {σ : mm} (d : Nat) (hdd : 5 ≤ d) (x0 : Nat) (t0 : tyOK Γ (0, 12) x0) (r : (Int32 × mm)) (h : fX13_readGood Γ.2 σ x0 = some r) : CT l G yX13_readGood cX13_readGood 2 (some .boolean) d 0 0 [.ref (G.2.1 x0)] Γ σ (PP (some (.int r.1)) Γ r.2) := by
  refine CT.ofWP (by decide) (Nat.le_of_ble_eq_true rfl) ?_
  have hQ : PP (some (.int r.1)) Γ r.2 (some (.int r.1)) Γ r.2 := PP.self
  generalize PP (some (.int r.1)) Γ r.2 = Q at hQ ⊢
  show WP l G yX13_readGood cX13_readGood 2 (some .boolean) d 0 0 Q 0 0 0 [(0, .ref (G.2.1 x0))] [] Γ σ
  unfold fX13_readGood at h
  refine r_aload_n 0 dX13_readGood_0 rfl ?_
  refine r_iconst (v := 2) dX13_readGood_1 (by decide) ?_
  refine r_bipush (v := 6) dX13_readGood_2 (by decide) ?_
  obtain ⟨v1, τ2, ev1, h⟩ := bd2_some h
  refine q_cVI [.int (2 : Int32), .int (6 : Int32)] dX13_readGood_4 cv_X13_166 (ci := 12) rfl rfl t0 rfl rfl (Nat.le_of_ble_eq_true rfl) (by omega) (kX13_readFirst (d - 1) (by omega) x0 (2 : Int32) (6 : Int32) t0 (v1, τ2) ev1) ?_
  refine r_if_ne 12 dX13_readGood_7 (by decide) h (fun _ h => ?_) (fun _ h => ?_)
  · refine r_aload_n 0 dX13_readGood_12 rfl ?_
    refine q_getR (e9 := (1, 0)) dX13_readGood_13 fd_X13_101 t0 rfl h (fun r3 tr3 h => ?_)
    refine r_iconst (v := 2) dX13_readGood_16 (by decide) ?_
    refine q_iald dX13_readGood_17 tr3 h (fun v4 h => ?_)
    refine r_istore_n (lv' := [(1, .int v4), (0, .ref (G.2.1 x0))]) dX13_readGood_18 (by decide) rfl ?_
    refine r_aload_n 1 dX13_readGood_19 rfl ?_
    refine r_bipush (v := 12) dX13_readGood_20 (by decide) ?_
    refine r_iload_n 0 dX13_readGood_22 rfl ?_
    refine r_iadd dX13_readGood_23 ?_
    obtain ⟨v5, τ6, ev5, h⟩ := bd2_some h
    refine q_cVI [.int ((12 : Int32) + v4)] dX13_readGood_24 cv_X13_169 (ci := 12) rfl rfl t0 rfl rfl (Nat.le_of_ble_eq_true rfl) (by omega) (kX13_readNew (d - 1) (by omega) x0 ((12 : Int32) + v4) t0 (v5, τ6) ev5) ?_
    refine r_if_eq 89 dX13_readGood_27 (by decide) h (fun _ h => ?_) (fun _ h => ?_)
    · refine r_pick [] rfl ?_
      exact tX13_readGood_b89 hdd τ6  _ h hQ
    · refine r_aload_n 1 dX13_readGood_30 rfl ?_
      refine r_bipush (v := 84) dX13_readGood_31 (by decide) ?_
      refine r_iload_n 0 dX13_readGood_33 rfl ?_
      refine r_iadd dX13_readGood_34 ?_
      refine r_aload_n 1 dX13_readGood_35 rfl ?_
      refine r_bipush (v := 8) dX13_readGood_36 (by decide) ?_
      refine r_aload_n 1 dX13_readGood_38 rfl ?_
      refine q_getR (e9 := (1, 0)) dX13_readGood_39 fd_X13_101 t0 rfl h (fun r7 tr7 h => ?_)
      refine r_iconst (v := 1) dX13_readGood_42 (by decide) ?_
      refine q_iald dX13_readGood_43 tr7 h (fun v8 h => ?_)
      obtain ⟨v9, τ10, ev9, h⟩ := bd2_some h
      refine q_cVI [.int (8 : Int32), .int v8] dX13_readGood_44 cv_X13_179 (ci := 12) rfl rfl t0 rfl rfl (Nat.le_of_ble_eq_true rfl) (by omega) (kX13_readOne (d - 1) (by omega) x0 (8 : Int32) v8 t0 (v9, τ10) ev9) ?_
      obtain ⟨v11, τ12, ev11, h⟩ := bd2_some h
      refine q_cVI [.int ((84 : Int32) + v4), .int v9] dX13_readGood_47 cv_X13_175 (ci := 12) rfl rfl t0 rfl rfl (Nat.le_of_ble_eq_true rfl) (by omega) (kX13_put (d - 1) (by omega) x0 ((84 : Int32) + v4) v9 t0 (v11, τ12) ev11) ?_
      refine r_if_eq 89 dX13_readGood_50 (by decide) h (fun _ h => ?_) (fun _ h => ?_)
      · refine r_pick [] rfl ?_
        exact tX13_readGood_b89 hdd τ12  _ h hQ
      · refine r_aload_n 1 dX13_readGood_53 rfl ?_
        refine r_bipush (v := 90) dX13_readGood_54 (by decide) ?_
        refine r_iload_n 0 dX13_readGood_56 rfl ?_
        refine r_iadd dX13_readGood_57 ?_
        refine r_aload_n 1 dX13_readGood_58 rfl ?_
        refine r_iconst (v := 0) dX13_readGood_59 (by decide) ?_
        refine r_bipush (v := 99) dX13_readGood_60 (by decide) ?_
        obtain ⟨v13, τ14, ev13, h⟩ := bd2_some h
        refine q_cVI [.int (0 : Int32), .int (99 : Int32)] dX13_readGood_62 cv_X13_172 (ci := 12) rfl rfl t0 rfl rfl (Nat.le_of_ble_eq_true rfl) (by omega) (kX13_readNumber (d - 1) (by omega) x0 (0 : Int32) (99 : Int32) t0 (v13, τ14) ev13) ?_
        obtain ⟨v15, τ16, ev15, h⟩ := bd2_some h
        refine q_cVI [.int ((90 : Int32) + v4), .int v13] dX13_readGood_65 cv_X13_175 (ci := 12) rfl rfl t0 rfl rfl (Nat.le_of_ble_eq_true rfl) (by omega) (kX13_put (d - 1) (by omega) x0 ((90 : Int32) + v4) v13 t0 (v15, τ16) ev15) ?_
        refine r_if_eq 89 dX13_readGood_68 (by decide) h (fun _ h => ?_) (fun _ h => ?_)
        · refine r_pick [] rfl ?_
          exact tX13_readGood_b89 hdd τ16  _ h hQ
        · refine r_aload_n 1 dX13_readGood_71 rfl ?_
          refine r_bipush (v := 96) dX13_readGood_72 (by decide) ?_
          refine r_iload_n 0 dX13_readGood_74 rfl ?_
          refine r_iadd dX13_readGood_75 ?_
          refine r_aload_n 1 dX13_readGood_76 rfl ?_
          refine r_iconst (v := 0) dX13_readGood_77 (by decide) ?_
          refine r_bipush (v := 99) dX13_readGood_78 (by decide) ?_
          obtain ⟨v17, τ18, ev17, h⟩ := bd2_some h
          refine q_cVI [.int (0 : Int32), .int (99 : Int32)] dX13_readGood_80 cv_X13_172 (ci := 12) rfl rfl t0 rfl rfl (Nat.le_of_ble_eq_true rfl) (by omega) (kX13_readNumber (d - 1) (by omega) x0 (0 : Int32) (99 : Int32) t0 (v17, τ18) ev17) ?_
          obtain ⟨v19, τ20, ev19, h⟩ := bd2_some h
          refine q_cVI [.int ((96 : Int32) + v4), .int v17] dX13_readGood_83 cv_X13_175 (ci := 12) rfl rfl t0 rfl rfl (Nat.le_of_ble_eq_true rfl) (by omega) (kX13_put (d - 1) (by omega) x0 ((96 : Int32) + v4) v17 t0 (v19, τ20) ev19) ?_
          refine r_if_ne 91 dX13_readGood_86 (by decide) h (fun _ h => ?_) (fun _ h => ?_)
          · refine r_aload_n 1 dX13_readGood_91 rfl ?_
            refine q_getR (e9 := (1, 0)) dX13_readGood_92 fd_X13_101 t0 rfl h (fun r21 tr21 h => ?_)
            refine r_iconst (v := 2) dX13_readGood_95 (by decide) ?_
            refine r_dup2 dX13_readGood_96 rfl rfl ?_
            refine q_iald dX13_readGood_97 tr21 h (fun v22 h => ?_)
            refine r_iconst (v := 1) dX13_readGood_98 (by decide) ?_
            refine r_iadd dX13_readGood_99 ?_
            refine q_iast dX13_readGood_100 tr21 h (fun τ23 h => ?_)
            refine r_iconst (v := 1) dX13_readGood_101 (by decide) ?_
            obtain rfl := Option.some.inj h
            exact r_zreturn dX13_readGood_102 rfl (by decide) hQ (Nat.le_refl _) (Nat.le_refl _)
          · refine r_pick [] rfl ?_
            exact tX13_readGood_b89 hdd τ20  _ h hQ
  · refine r_iconst (v := 0) dX13_readGood_10 (by decide) ?_
    obtain rfl := Option.some.inj h
    exact r_zreturn dX13_readGood_11 rfl (by decide) hQ (Nat.le_refl _) (Nat.le_refl _)
theorem kX13_isFresh {l : Launch} {G : gg} {Γ : ly} {σ : mm} (d : Nat) (hdd : 2 ≤ d) (x0 : Nat) (x1 : Int32) (t0 : tyOK Γ (0, 12) x0) (r : (Int32 × mm)) (h : fX13_isFresh Γ.2 σ x0 x1 = some r) : CT l G yX13_isFresh cX13_isFresh 2 (some .boolean) d 0 0 [.ref (G.2.1 x0), .int x1] Γ σ (PP (some (.int r.1)) Γ r.2) := by
  refine CT.ofWP (by decide) (Nat.le_of_ble_eq_true rfl) ?_
  have hQ : PP (some (.int r.1)) Γ r.2 (some (.int r.1)) Γ r.2 := PP.self
  generalize PP (some (.int r.1)) Γ r.2 = Q at hQ ⊢
  show WP l G yX13_isFresh cX13_isFresh 2 (some .boolean) d 0 0 Q 0 0 0 [(0, .ref (G.2.1 x0)), (1, .int x1)] [] Γ σ
  unfold fX13_isFresh at h
  refine r_aload_n 0 dX13_isFresh_0 rfl ?_
  refine r_getI dX13_isFresh_1 fd_X13_182 t0 ?_
  refine r_iload_n 1 dX13_isFresh_4 rfl ?_
  obtain ⟨v1, ev1, h⟩ := bd0_some h
  refine q_cSI [.int (σ.1 x0 24), .int x1] dX13_isFresh_5 cs_X13_185 rfl rfl (Nat.le_of_ble_eq_true rfl) (by omega) (kX13_has (d - 1) (by omega) (σ.1 x0 24) x1  v1 ev1) ?_
  refine r_if_eq 17 dX13_isFresh_8 (by decide) h (fun _ h => ?_) (fun _ h => ?_)
  · refine r_aload_n 0 dX13_isFresh_17 rfl ?_
    refine r_dup dX13_isFresh_18 rfl ?_
    refine r_getI dX13_isFresh_19 fd_X13_182 t0 ?_
    refine r_iconst (v := 1) dX13_isFresh_22 (by decide) ?_
    refine r_iload_n 1 dX13_isFresh_23 rfl ?_
    refine r_ishl dX13_isFresh_24 ?_
    refine r_ior dX13_isFresh_25 ?_
    refine q_putI dX13_isFresh_26 fd_X13_182 t0 h (fun τ2 h => ?_)
    refine r_aload_n 0 dX13_isFresh_29 rfl ?_
    obtain ⟨τ3, eτ3, h⟩ := bd0_some h
    refine q_cVV [] dX13_isFresh_30 cv_X13_82 (ci := 12) rfl rfl t0 rfl rfl (Nat.le_of_ble_eq_true rfl) (by omega) (kX13_go (d - 1) (by omega) x0 t0 τ3 eτ3) ?_
    refine r_iconst (v := 1) dX13_isFresh_33 (by decide) ?_
    obtain rfl := Option.some.inj h
    exact r_zreturn dX13_isFresh_34 rfl (by decide) hQ (Nat.le_refl _) (Nat.le_refl _)
  · refine r_aload_n 0 dX13_isFresh_11 rfl ?_
    refine r_iconst (v := 3) dX13_isFresh_12 (by decide) ?_
    obtain ⟨v4, τ5, ev4, h⟩ := bd2_some h
    refine q_cVI [.int (3 : Int32)] dX13_isFresh_13 cv_X13_72 (ci := 12) rfl rfl t0 rfl rfl (Nat.le_of_ble_eq_true rfl) (by omega) (kX13_bad (d - 1) (by omega) x0 (3 : Int32) t0 (v4, τ5) ev4) ?_
    obtain ⟨hbz, h⟩ := rZ_some h
    obtain rfl := Option.some.inj h
    exact r_zreturn dX13_isFresh_16 rfl hbz hQ (Nat.le_refl _) (Nat.le_refl _)
theorem kX13_readFlag {l : Launch} {G : gg} {Γ : ly} {σ : mm} (d : Nat) (hdd : 3 ≤ d) (x0 : Nat) (x1 : Int32) (x2 : Int32) (t0 : tyOK Γ (0, 12) x0) (r : (Int32 × mm)) (h : fX13_readFlag Γ.2 σ x0 x1 x2 = some r) : CT l G yX13_readFlag cX13_readFlag 3 (some .boolean) d 0 0 [.ref (G.2.1 x0), .int x1, .int x2] Γ σ (PP (some (.int r.1)) Γ r.2) := by
  refine CT.ofWP (by decide) (Nat.le_of_ble_eq_true rfl) ?_
  have hQ : PP (some (.int r.1)) Γ r.2 (some (.int r.1)) Γ r.2 := PP.self
  generalize PP (some (.int r.1)) Γ r.2 = Q at hQ ⊢
  show WP l G yX13_readFlag cX13_readFlag 3 (some .boolean) d 0 0 Q 0 0 0 [(0, .ref (G.2.1 x0)), (1, .int x1), (2, .int x2)] [] Γ σ
  unfold fX13_readFlag at h
  refine r_aload_n 0 dX13_readFlag_0 rfl ?_
  refine r_iload_n 1 dX13_readFlag_1 rfl ?_
  obtain ⟨v1, τ2, ev1, h⟩ := bd2_some h
  refine q_cVI [.int x1] dX13_readFlag_2 cv_X13_188 (ci := 12) rfl rfl t0 rfl rfl (Nat.le_of_ble_eq_true rfl) (by omega) (kX13_isFresh (d - 1) (by omega) x0 x1 t0 (v1, τ2) ev1) ?_
  refine r_if_ne 10 dX13_readFlag_5 (by decide) h (fun _ h => ?_) (fun _ h => ?_)
  · refine r_aload_n 0 dX13_readFlag_10 rfl ?_
    refine q_getR (e9 := (1, 0)) dX13_readFlag_11 fd_X13_101 t0 rfl h (fun r3 tr3 h => ?_)
    refine r_iload_n 2 dX13_readFlag_14 rfl ?_
    refine r_iconst (v := 1) dX13_readFlag_15 (by decide) ?_
    refine q_iast dX13_readFlag_16 tr3 h (fun τ4 h => ?_)
    refine r_iconst (v := 1) dX13_readFlag_17 (by decide) ?_
    obtain rfl := Option.some.inj h
    exact r_zreturn dX13_readFlag_18 rfl (by decide) hQ (Nat.le_refl _) (Nat.le_refl _)
  · refine r_iconst (v := 0) dX13_readFlag_8 (by decide) ?_
    obtain rfl := Option.some.inj h
    exact r_zreturn dX13_readFlag_9 rfl (by decide) hQ (Nat.le_refl _) (Nat.le_refl _)
theorem tX13_readLine_b198 {l : Launch} {G : gg} {Γ : ly} {d : Nat} {Q : Option Value → ly → mm → Prop} (hdd : 6 ≤ d) (σ : mm)  (s0 : Int32)   (r : (Int32 × mm)) (h : fX13_readLine_b198 Γ.2 σ s0 = some r) (hQ : Q (some (.int r.1)) Γ r.2) : WP l G yX13_readLine cX13_readLine 1 (some .boolean) d 0 0 Q 0 0 198 [] [.int s0] Γ σ := by
  unfold fX13_readLine_b198 at h
  obtain ⟨hbz, h⟩ := rZ_some h
  obtain rfl := Option.some.inj h
  exact r_zreturn dX13_readLine_198 rfl hbz hQ (Nat.le_refl _) (Nat.le_refl _)
theorem tX13_readLine_b157 {l : Launch} {G : gg} {Γ : ly} {d : Nat} {Q : Option Value → ly → mm → Prop} (hdd : 6 ≤ d) (σ : mm)  (s0 : Int32)   (r : (Int32 × mm)) (h : fX13_readLine_b157 Γ.2 σ s0 = some r) (hQ : Q (some (.int r.1)) Γ r.2) : WP l G yX13_readLine cX13_readLine 1 (some .boolean) d 0 0 Q 0 0 157 [] [.int s0] Γ σ := by
  unfold fX13_readLine_b157 at h
  obtain ⟨hbz, h⟩ := rZ_some h
  obtain rfl := Option.some.inj h
  exact r_zreturn dX13_readLine_157 rfl hbz hQ (Nat.le_refl _) (Nat.le_refl _)
theorem tX13_readLine_b156 {l : Launch} {G : gg} {Γ : ly} {d : Nat} {Q : Option Value → ly → mm → Prop} (hdd : 6 ≤ d) (σ : mm)     (r : (Int32 × mm)) (h : fX13_readLine_b156 Γ.2 σ  = some r) (hQ : Q (some (.int r.1)) Γ r.2) : WP l G yX13_readLine cX13_readLine 1 (some .boolean) d 0 0 Q 0 0 156 [] [] Γ σ := by
  unfold fX13_readLine_b156 at h
  refine r_iconst (v := 0) dX13_readLine_156 (by decide) ?_
  exact tX13_readLine_b157 hdd σ (0 : Int32)  _ h hQ
theorem tX13_readLine_b119 {l : Launch} {G : gg} {Γ : ly} {d : Nat} {Q : Option Value → ly → mm → Prop} (hdd : 6 ≤ d) (σ : mm)  (s0 : Int32)   (r : (Int32 × mm)) (h : fX13_readLine_b119 Γ.2 σ s0 = some r) (hQ : Q (some (.int r.1)) Γ r.2) : WP l G yX13_readLine cX13_readLine 1 (some .boolean) d 0 0 Q 0 0 119 [] [.int s0] Γ σ := by
  unfold fX13_readLine_b119 at h
  obtain ⟨hbz, h⟩ := rZ_some h
  obtain rfl := Option.some.inj h
  exact r_zreturn dX13_readLine_119 rfl hbz hQ (Nat.le_refl _) (Nat.le_refl _)
theorem tX13_readLine_b118 {l : Launch} {G : gg} {Γ : ly} {d : Nat} {Q : Option Value → ly → mm → Prop} (hdd : 6 ≤ d) (σ : mm)     (r : (Int32 × mm)) (h : fX13_readLine_b118 Γ.2 σ  = some r) (hQ : Q (some (.int r.1)) Γ r.2) : WP l G yX13_readLine cX13_readLine 1 (some .boolean) d 0 0 Q 0 0 118 [] [] Γ σ := by
  unfold fX13_readLine_b118 at h
  refine r_iconst (v := 0) dX13_readLine_118 (by decide) ?_
  exact tX13_readLine_b119 hdd σ (0 : Int32)  _ h hQ
theorem kX13_readLine {l : Launch} {G : gg} {Γ : ly} {σ : mm} (d : Nat) (hdd : 6 ≤ d) (x0 : Nat) (t0 : tyOK Γ (0, 12) x0) (r : (Int32 × mm)) (h : fX13_readLine Γ.2 σ x0 = some r) : CT l G yX13_readLine cX13_readLine 1 (some .boolean) d 0 0 [.ref (G.2.1 x0)] Γ σ (PP (some (.int r.1)) Γ r.2) := by
  refine CT.ofWP (by decide) (Nat.le_of_ble_eq_true rfl) ?_
  have hQ : PP (some (.int r.1)) Γ r.2 (some (.int r.1)) Γ r.2 := PP.self
  generalize PP (some (.int r.1)) Γ r.2 = Q at hQ ⊢
  show WP l G yX13_readLine cX13_readLine 1 (some .boolean) d 0 0 Q 0 0 0 [(0, .ref (G.2.1 x0))] [] Γ σ
  unfold fX13_readLine at h
  refine r_aload_n 0 dX13_readLine_0 rfl ?_
  refine r_iconst (v := 0) dX13_readLine_1 (by decide) ?_
  obtain ⟨v1, ev1, h⟩ := bd0_some h
  refine q_cVI [.int (0 : Int32)] dX13_readLine_2 cv_X13_191 (ci := 12) rfl rfl t0 rfl rfl (Nat.le_of_ble_eq_true rfl) (by omega) (kX13_isWord (d - 1) (by omega) x0 (0 : Int32) t0 v1 ev1) ?_
  refine r_if_eq 13 dX13_readLine_5 (by decide) h (fun _ h => ?_) (fun _ h => ?_)
  · refine r_aload_n 0 dX13_readLine_13 rfl ?_
    refine r_iconst (v := 1) dX13_readLine_14 (by decide) ?_
    obtain ⟨v2, ev2, h⟩ := bd0_some h
    refine q_cVI [.int (1 : Int32)] dX13_readLine_15 cv_X13_191 (ci := 12) rfl rfl t0 rfl rfl (Nat.le_of_ble_eq_true rfl) (by omega) (kX13_isWord (d - 1) (by omega) x0 (1 : Int32) t0 v2 ev2) ?_
    refine r_if_eq 28 dX13_readLine_18 (by decide) h (fun _ h => ?_) (fun _ h => ?_)
    · refine r_aload_n 0 dX13_readLine_28 rfl ?_
      refine r_iconst (v := 2) dX13_readLine_29 (by decide) ?_
      obtain ⟨v3, ev3, h⟩ := bd0_some h
      refine q_cVI [.int (2 : Int32)] dX13_readLine_30 cv_X13_191 (ci := 12) rfl rfl t0 rfl rfl (Nat.le_of_ble_eq_true rfl) (by omega) (kX13_isWord (d - 1) (by omega) x0 (2 : Int32) t0 v3 ev3) ?_
      refine r_if_eq 43 dX13_readLine_33 (by decide) h (fun _ h => ?_) (fun _ h => ?_)
      · refine r_aload_n 0 dX13_readLine_43 rfl ?_
        refine r_iconst (v := 3) dX13_readLine_44 (by decide) ?_
        obtain ⟨v4, ev4, h⟩ := bd0_some h
        refine q_cVI [.int (3 : Int32)] dX13_readLine_45 cv_X13_191 (ci := 12) rfl rfl t0 rfl rfl (Nat.le_of_ble_eq_true rfl) (by omega) (kX13_isWord (d - 1) (by omega) x0 (3 : Int32) t0 v4 ev4) ?_
        refine r_if_eq 56 dX13_readLine_48 (by decide) h (fun _ h => ?_) (fun _ h => ?_)
        · refine r_aload_n 0 dX13_readLine_56 rfl ?_
          refine r_iconst (v := 4) dX13_readLine_57 (by decide) ?_
          obtain ⟨v5, ev5, h⟩ := bd0_some h
          refine q_cVI [.int (4 : Int32)] dX13_readLine_58 cv_X13_191 (ci := 12) rfl rfl t0 rfl rfl (Nat.le_of_ble_eq_true rfl) (by omega) (kX13_isWord (d - 1) (by omega) x0 (4 : Int32) t0 v5 ev5) ?_
          refine r_if_eq 69 dX13_readLine_61 (by decide) h (fun _ h => ?_) (fun _ h => ?_)
          · refine r_aload_n 0 dX13_readLine_69 rfl ?_
            refine r_iconst (v := 5) dX13_readLine_70 (by decide) ?_
            obtain ⟨v6, ev6, h⟩ := bd0_some h
            refine q_cVI [.int (5 : Int32)] dX13_readLine_71 cv_X13_191 (ci := 12) rfl rfl t0 rfl rfl (Nat.le_of_ble_eq_true rfl) (by omega) (kX13_isWord (d - 1) (by omega) x0 (5 : Int32) t0 v6 ev6) ?_
            refine r_if_eq 82 dX13_readLine_74 (by decide) h (fun _ h => ?_) (fun _ h => ?_)
            · refine r_aload_n 0 dX13_readLine_82 rfl ?_
              refine r_bipush (v := 6) dX13_readLine_83 (by decide) ?_
              obtain ⟨v7, ev7, h⟩ := bd0_some h
              refine q_cVI [.int (6 : Int32)] dX13_readLine_85 cv_X13_191 (ci := 12) rfl rfl t0 rfl rfl (Nat.le_of_ble_eq_true rfl) (by omega) (kX13_isWord (d - 1) (by omega) x0 (6 : Int32) t0 v7 ev7) ?_
              refine r_if_eq 120 dX13_readLine_88 (by decide) h (fun _ h => ?_) (fun _ h => ?_)
              · refine r_aload_n 0 dX13_readLine_120 rfl ?_
                refine r_bipush (v := 7) dX13_readLine_121 (by decide) ?_
                obtain ⟨v8, ev8, h⟩ := bd0_some h
                refine q_cVI [.int (7 : Int32)] dX13_readLine_123 cv_X13_191 (ci := 12) rfl rfl t0 rfl rfl (Nat.le_of_ble_eq_true rfl) (by omega) (kX13_isWord (d - 1) (by omega) x0 (7 : Int32) t0 v8 ev8) ?_
                refine r_if_eq 158 dX13_readLine_126 (by decide) h (fun _ h => ?_) (fun _ h => ?_)
                · refine r_aload_n 0 dX13_readLine_158 rfl ?_
                  refine r_bipush (v := 8) dX13_readLine_159 (by decide) ?_
                  obtain ⟨v9, ev9, h⟩ := bd0_some h
                  refine q_cVI [.int (8 : Int32)] dX13_readLine_161 cv_X13_191 (ci := 12) rfl rfl t0 rfl rfl (Nat.le_of_ble_eq_true rfl) (by omega) (kX13_isWord (d - 1) (by omega) x0 (8 : Int32) t0 v9 ev9) ?_
                  refine r_if_eq 174 dX13_readLine_164 (by decide) h (fun _ h => ?_) (fun _ h => ?_)
                  · refine r_aload_n 0 dX13_readLine_174 rfl ?_
                    refine r_bipush (v := 9) dX13_readLine_175 (by decide) ?_
                    obtain ⟨v10, ev10, h⟩ := bd0_some h
                    refine q_cVI [.int (9 : Int32)] dX13_readLine_177 cv_X13_191 (ci := 12) rfl rfl t0 rfl rfl (Nat.le_of_ble_eq_true rfl) (by omega) (kX13_isWord (d - 1) (by omega) x0 (9 : Int32) t0 v10 ev10) ?_
                    refine r_if_eq 193 dX13_readLine_180 (by decide) h (fun _ h => ?_) (fun _ h => ?_)
                    · refine r_aload_n 0 dX13_readLine_193 rfl ?_
                      refine r_iconst (v := 1) dX13_readLine_194 (by decide) ?_
                      obtain ⟨v11, τ12, ev11, h⟩ := bd2_some h
                      refine q_cVI [.int (1 : Int32)] dX13_readLine_195 cv_X13_72 (ci := 12) rfl rfl t0 rfl rfl (Nat.le_of_ble_eq_true rfl) (by omega) (kX13_bad (d - 1) (by omega) x0 (1 : Int32) t0 (v11, τ12) ev11) ?_
                      refine r_pick [] rfl ?_
                      exact tX13_readLine_b198 hdd τ12 v11  _ h hQ
                    · refine r_aload_n 0 dX13_readLine_183 rfl ?_
                      refine r_iconst (v := 3) dX13_readLine_184 (by decide) ?_
                      refine r_bipush (v := 6) dX13_readLine_185 (by decide) ?_
                      obtain ⟨v13, τ14, ev13, h⟩ := bd2_some h
                      refine q_cVI [.int (3 : Int32), .int (6 : Int32)] dX13_readLine_187 cv_X13_209 (ci := 12) rfl rfl t0 rfl rfl (Nat.le_of_ble_eq_true rfl) (by omega) (kX13_readFlag (d - 1) (by omega) x0 (3 : Int32) (6 : Int32) t0 (v13, τ14) ev13) ?_
                      refine r_goto 198 dX13_readLine_190 (by decide) ?_
                      refine r_pick [] rfl ?_
                      exact tX13_readLine_b198 hdd τ14 v13  _ h hQ
                  · refine r_aload_n 0 dX13_readLine_167 rfl ?_
                    refine r_iconst (v := 2) dX13_readLine_168 (by decide) ?_
                    refine r_iconst (v := 5) dX13_readLine_169 (by decide) ?_
                    obtain ⟨v15, τ16, ev15, h⟩ := bd2_some h
                    refine q_cVI [.int (2 : Int32), .int (5 : Int32)] dX13_readLine_170 cv_X13_209 (ci := 12) rfl rfl t0 rfl rfl (Nat.le_of_ble_eq_true rfl) (by omega) (kX13_readFlag (d - 1) (by omega) x0 (2 : Int32) (5 : Int32) t0 (v15, τ16) ev15) ?_
                    obtain ⟨hbz, h⟩ := rZ_some h
                    obtain rfl := Option.some.inj h
                    exact r_zreturn dX13_readLine_173 rfl hbz hQ (Nat.le_refl _) (Nat.le_refl _)
                · refine r_aload_n 0 dX13_readLine_129 rfl ?_
                  refine r_iconst (v := 1) dX13_readLine_130 (by decide) ?_
                  obtain ⟨v17, τ18, ev17, h⟩ := bd2_some h
                  refine q_cVI [.int (1 : Int32)] dX13_readLine_131 cv_X13_188 (ci := 12) rfl rfl t0 rfl rfl (Nat.le_of_ble_eq_true rfl) (by omega) (kX13_isFresh (d - 1) (by omega) x0 (1 : Int32) t0 (v17, τ18) ev17) ?_
                  refine r_if_eq 156 dX13_readLine_134 (by decide) h (fun _ h => ?_) (fun _ h => ?_)
                  · refine r_pick [] rfl ?_
                    exact tX13_readLine_b156 hdd τ18  _ h hQ
                  · refine r_aload_n 0 dX13_readLine_137 rfl ?_
                    refine r_iconst (v := 4) dX13_readLine_138 (by decide) ?_
                    refine r_aload_n 0 dX13_readLine_139 rfl ?_
                    refine r_iconst (v := 0) dX13_readLine_140 (by decide) ?_
                    refine r_bipush (v := 99) dX13_readLine_141 (by decide) ?_
                    obtain ⟨v19, τ20, ev19, h⟩ := bd2_some h
                    refine q_cVI [.int (0 : Int32), .int (99 : Int32)] dX13_readLine_143 cv_X13_172 (ci := 12) rfl rfl t0 rfl rfl (Nat.le_of_ble_eq_true rfl) (by omega) (kX13_readNumber (d - 1) (by omega) x0 (0 : Int32) (99 : Int32) t0 (v19, τ20) ev19) ?_
                    obtain ⟨v21, τ22, ev21, h⟩ := bd2_some h
                    refine q_cVI [.int (4 : Int32), .int v19] dX13_readLine_146 cv_X13_175 (ci := 12) rfl rfl t0 rfl rfl (Nat.le_of_ble_eq_true rfl) (by omega) (kX13_put (d - 1) (by omega) x0 (4 : Int32) v19 t0 (v21, τ22) ev21) ?_
                    refine r_if_eq 156 dX13_readLine_149 (by decide) h (fun _ h => ?_) (fun _ h => ?_)
                    · refine r_pick [] rfl ?_
                      exact tX13_readLine_b156 hdd τ22  _ h hQ
                    · refine r_iconst (v := 1) dX13_readLine_152 (by decide) ?_
                      refine r_goto 157 dX13_readLine_153 (by decide) ?_
                      refine r_pick [] rfl ?_
                      exact tX13_readLine_b157 hdd τ22 (1 : Int32)  _ h hQ
              · refine r_aload_n 0 dX13_readLine_91 rfl ?_
                refine r_iconst (v := 0) dX13_readLine_92 (by decide) ?_
                obtain ⟨v23, τ24, ev23, h⟩ := bd2_some h
                refine q_cVI [.int (0 : Int32)] dX13_readLine_93 cv_X13_188 (ci := 12) rfl rfl t0 rfl rfl (Nat.le_of_ble_eq_true rfl) (by omega) (kX13_isFresh (d - 1) (by omega) x0 (0 : Int32) t0 (v23, τ24) ev23) ?_
                refine r_if_eq 118 dX13_readLine_96 (by decide) h (fun _ h => ?_) (fun _ h => ?_)
                · refine r_pick [] rfl ?_
                  exact tX13_readLine_b118 hdd τ24  _ h hQ
                · refine r_aload_n 0 dX13_readLine_99 rfl ?_
                  refine r_iconst (v := 3) dX13_readLine_100 (by decide) ?_
                  refine r_aload_n 0 dX13_readLine_101 rfl ?_
                  refine r_iconst (v := 1) dX13_readLine_102 (by decide) ?_
                  refine r_bipush (v := 9) dX13_readLine_103 (by decide) ?_
                  obtain ⟨v25, τ26, ev25, h⟩ := bd2_some h
                  refine q_cVI [.int (1 : Int32), .int (9 : Int32)] dX13_readLine_105 cv_X13_172 (ci := 12) rfl rfl t0 rfl rfl (Nat.le_of_ble_eq_true rfl) (by omega) (kX13_readNumber (d - 1) (by omega) x0 (1 : Int32) (9 : Int32) t0 (v25, τ26) ev25) ?_
                  obtain ⟨v27, τ28, ev27, h⟩ := bd2_some h
                  refine q_cVI [.int (3 : Int32), .int v25] dX13_readLine_108 cv_X13_175 (ci := 12) rfl rfl t0 rfl rfl (Nat.le_of_ble_eq_true rfl) (by omega) (kX13_put (d - 1) (by omega) x0 (3 : Int32) v25 t0 (v27, τ28) ev27) ?_
                  refine r_if_eq 118 dX13_readLine_111 (by decide) h (fun _ h => ?_) (fun _ h => ?_)
                  · refine r_pick [] rfl ?_
                    exact tX13_readLine_b118 hdd τ28  _ h hQ
                  · refine r_iconst (v := 1) dX13_readLine_114 (by decide) ?_
                    refine r_goto 119 dX13_readLine_115 (by decide) ?_
                    refine r_pick [] rfl ?_
                    exact tX13_readLine_b119 hdd τ28 (1 : Int32)  _ h hQ
            · refine r_aload_n 0 dX13_readLine_77 rfl ?_
              obtain ⟨v29, τ30, ev29, h⟩ := bd2_some h
              refine q_cVI [] dX13_readLine_78 cv_X13_206 (ci := 12) rfl rfl t0 rfl rfl (Nat.le_of_ble_eq_true rfl) (by omega) (kX13_readGood (d - 1) (by omega) x0 t0 (v29, τ30) ev29) ?_
              obtain ⟨hbz, h⟩ := rZ_some h
              obtain rfl := Option.some.inj h
              exact r_zreturn dX13_readLine_81 rfl hbz hQ (Nat.le_refl _) (Nat.le_refl _)
          · refine r_aload_n 0 dX13_readLine_64 rfl ?_
            obtain ⟨v31, τ32, ev31, h⟩ := bd2_some h
            refine q_cVI [] dX13_readLine_65 cv_X13_203 (ci := 12) rfl rfl t0 rfl rfl (Nat.le_of_ble_eq_true rfl) (by omega) (kX13_readDamp (d - 1) (by omega) x0 t0 (v31, τ32) ev31) ?_
            obtain ⟨hbz, h⟩ := rZ_some h
            obtain rfl := Option.some.inj h
            exact r_zreturn dX13_readLine_68 rfl hbz hQ (Nat.le_refl _) (Nat.le_refl _)
        · refine r_aload_n 0 dX13_readLine_51 rfl ?_
          obtain ⟨v33, τ34, ev33, h⟩ := bd2_some h
          refine q_cVI [] dX13_readLine_52 cv_X13_200 (ci := 12) rfl rfl t0 rfl rfl (Nat.le_of_ble_eq_true rfl) (by omega) (kX13_readGlass (d - 1) (by omega) x0 t0 (v33, τ34) ev33) ?_
          obtain ⟨hbz, h⟩ := rZ_some h
          obtain rfl := Option.some.inj h
          exact r_zreturn dX13_readLine_55 rfl hbz hQ (Nat.le_refl _) (Nat.le_refl _)
      · refine r_aload_n 0 dX13_readLine_36 rfl ?_
        refine r_bipush (v := 40) dX13_readLine_37 (by decide) ?_
        obtain ⟨v35, τ36, ev35, h⟩ := bd2_some h
        refine q_cVI [.int (40 : Int32)] dX13_readLine_39 cv_X13_197 (ci := 12) rfl rfl t0 rfl rfl (Nat.le_of_ble_eq_true rfl) (by omega) (kX13_readFonder (d - 1) (by omega) x0 (40 : Int32) t0 (v35, τ36) ev35) ?_
        obtain ⟨hbz, h⟩ := rZ_some h
        obtain rfl := Option.some.inj h
        exact r_zreturn dX13_readLine_42 rfl hbz hQ (Nat.le_refl _) (Nat.le_refl _)
    · refine r_aload_n 0 dX13_readLine_21 rfl ?_
      refine r_bipush (v := 32) dX13_readLine_22 (by decide) ?_
      obtain ⟨v37, τ38, ev37, h⟩ := bd2_some h
      refine q_cVI [.int (32 : Int32)] dX13_readLine_24 cv_X13_197 (ci := 12) rfl rfl t0 rfl rfl (Nat.le_of_ble_eq_true rfl) (by omega) (kX13_readFonder (d - 1) (by omega) x0 (32 : Int32) t0 (v37, τ38) ev37) ?_
      obtain ⟨hbz, h⟩ := rZ_some h
      obtain rfl := Option.some.inj h
      exact r_zreturn dX13_readLine_27 rfl hbz hQ (Nat.le_refl _) (Nat.le_refl _)
  · refine r_aload_n 0 dX13_readLine_8 rfl ?_
    obtain ⟨v39, τ40, ev39, h⟩ := bd2_some h
    refine q_cVI [] dX13_readLine_9 cv_X13_194 (ci := 12) rfl rfl t0 rfl rfl (Nat.le_of_ble_eq_true rfl) (by omega) (kX13_readPerson (d - 1) (by omega) x0 t0 (v39, τ40) ev39) ?_
    obtain ⟨hbz, h⟩ := rZ_some h
    obtain rfl := Option.some.inj h
    exact r_zreturn dX13_readLine_12 rfl hbz hQ (Nat.le_refl _) (Nat.le_refl _)
theorem sX13_parish_L18 {l : Launch} {G : gg} {Γ : ly} {d : Nat} {Q : Option Value → ly → mm → Prop} (hdd : 7 ≤ d) (x0 : Nat) (t0 : tyOK Γ (0, 12) x0) {K : (mm ⊕ (Int32 × mm)) → Prop} (kx0 : ∀ (σ9 : mm), K (.inl σ9) → WP l G yX13_parish cX13_parish 3 (some .int) d 0 0 Q 0 0 39 [(0, .ref (G.2.1 x0))] [] Γ σ9) (kx1 : ∀ (x1 : Int32) (σ9 : mm), K (.inr (x1, σ9)) → WP l G yX13_parish cX13_parish 3 (some .int) d 0 0 Q 0 0 52 [(0, .ref (G.2.1 x0)), (1, .int x1)] [] Γ σ9) : ∀ (N : Nat) (s : (Int32 × mm)) (b : (mm ⊕ (Int32 × mm))), loopN (fX13_parish_L18 Γ.2 x0) N s = some b → K b → WP l G yX13_parish cX13_parish 3 (some .int) d 0 0 Q 0 0 18 [(0, .ref (G.2.1 x0)), (1, .int s.1)] [] Γ s.2 := by
  refine r_loop (f := fX13_parish_L18 Γ.2 x0) (hlv := fun s => [(0, .ref (G.2.1 x0)), (1, .int s.1)]) (hsg := fun s => s.2) ?_
  rintro ⟨x1, σ⟩ r h hb hx
  have hb : ∀ (x1 : Int32) (σ : mm), r = .inl (x1, σ) → WP l G yX13_parish cX13_parish 3 (some .int) d 0 0 Q 0 0 18 [(0, .ref (G.2.1 x0)), (1, .int x1)] [] Γ σ := fun x1 σ e => hb (x1, σ) e
  have hx0 : ∀ (σ9 : mm), r = .inr (.inl σ9) → WP l G yX13_parish cX13_parish 3 (some .int) d 0 0 Q 0 0 39 [(0, .ref (G.2.1 x0))] [] Γ σ9 := fun σ9 e => kx0 σ9 (hx _ e)
  have hx1 : ∀ (x1 : Int32) (σ9 : mm), r = .inr (.inr (x1, σ9)) → WP l G yX13_parish cX13_parish 3 (some .int) d 0 0 Q 0 0 52 [(0, .ref (G.2.1 x0)), (1, .int x1)] [] Γ σ9 := fun x1 σ9 e => kx1 x1 σ9 (hx _ e)
  unfold fX13_parish_L18 at h
  have h := un2_some h
  show WP l G yX13_parish cX13_parish 3 (some .int) d 0 0 Q 0 0 18 [(0, .ref (G.2.1 x0)), (1, .int x1)] [] Γ σ
  refine r_aload_n 0 dX13_parish_18 rfl ?_
  refine r_getI dX13_parish_19 fd_X13_30 t0 ?_
  refine r_if_eq 52 dX13_parish_22 (by decide) h (fun _ h => ?_) (fun _ h => ?_)
  · obtain rfl := Option.some.inj h
    exact hx1 _ _ rfl
  · refine r_aload_n 0 dX13_parish_25 rfl ?_
    obtain ⟨v1, τ2, ev1, h⟩ := bd2_some h
    refine q_cVI [] dX13_parish_26 cv_X13_215 (ci := 12) rfl rfl t0 rfl rfl (Nat.le_of_ble_eq_true rfl) (by omega) (kX13_readLine (d - 1) (by omega) x0 t0 (v1, τ2) ev1) ?_
    refine r_if_eq 39 dX13_parish_29 (by decide) h (fun _ h => ?_) (fun _ h => ?_)
    · obtain rfl := Option.some.inj h
      refine r_pick [0] rfl ?_
      exact hx0 _ rfl
    · refine r_aload_n 0 dX13_parish_32 rfl ?_
      obtain ⟨v3, τ4, ev3, h⟩ := bd2_some h
      refine q_cVI [] dX13_parish_33 cv_X13_218 (ci := 12) rfl rfl t0 rfl rfl (Nat.le_of_ble_eq_true rfl) (by omega) (kX13_readEnd (d - 1) (by omega) x0 t0 (v3, τ4) ev3) ?_
      refine r_if_ne 46 dX13_parish_36 (by decide) h (fun _ h => ?_) (fun _ h => ?_)
      · refine q_iinc (v := 1) 1 (fun v5 => [(1, .int v5), (0, .ref (G.2.1 x0))]) dX13_parish_46 rfl (by decide) (by decide) (fun _ => rfl) h (fun v5 h => ?_)
        refine r_goto 18 dX13_parish_49 (by decide) ?_
        obtain rfl := Option.some.inj h
        refine r_pick [1, 0] rfl ?_
        exact hb _ _ rfl
      · obtain rfl := Option.some.inj h
        refine r_pick [0] rfl ?_
        exact hx0 _ rfl
theorem tX13_parish_b39 {l : Launch} {G : gg} {Γ : ly} {d : Nat} {Q : Option Value → ly → mm → Prop} (hdd : 7 ≤ d) (σ : mm) (x0 : Nat)  (t0 : tyOK Γ (0, 12) x0)  (r : (Int32 × mm)) (h : fX13_parish_b39 Γ.2 σ x0 = some r) (hQ : Q (some (.int r.1)) Γ r.2) : WP l G yX13_parish cX13_parish 3 (some .int) d 0 0 Q 0 0 39 [(0, .ref (G.2.1 x0))] [] Γ σ := by
  unfold fX13_parish_b39 at h
  refine r_iconst (v := -1) dX13_parish_39 (by decide) ?_
  refine r_aload_n 0 dX13_parish_40 rfl ?_
  refine r_getI dX13_parish_41 fd_X13_69 t0 ?_
  refine r_isub dX13_parish_44 ?_
  obtain rfl := Option.some.inj h
  exact r_ireturn dX13_parish_45 rfl hQ (Nat.le_refl _) (Nat.le_refl _)
theorem sX13_parish_L54 {l : Launch} {G : gg} {Γ : ly} {d : Nat} {Q : Option Value → ly → mm → Prop} (hdd : 7 ≤ d) (x0 : Nat) (x1 : Int32) (t0 : tyOK Γ (0, 12) x0) {K : mm → Prop} (kx0 : ∀ (σ9 : mm), K σ9 → WP l G yX13_parish cX13_parish 3 (some .int) d 0 0 Q 0 0 78 [(0, .ref (G.2.1 x0)), (1, .int x1)] [] Γ σ9) : ∀ (N : Nat) (s : (Int32 × mm)) (b : mm), loopN (fX13_parish_L54 Γ.2 x0 x1) N s = some b → K b → WP l G yX13_parish cX13_parish 3 (some .int) d 0 0 Q 0 0 54 [(0, .ref (G.2.1 x0)), (1, .int x1), (2, .int s.1)] [] Γ s.2 := by
  refine r_loop (f := fX13_parish_L54 Γ.2 x0 x1) (hlv := fun s => [(0, .ref (G.2.1 x0)), (1, .int x1), (2, .int s.1)]) (hsg := fun s => s.2) ?_
  rintro ⟨x2, σ⟩ r h hb hx
  have hb : ∀ (x2 : Int32) (σ : mm), r = .inl (x2, σ) → WP l G yX13_parish cX13_parish 3 (some .int) d 0 0 Q 0 0 54 [(0, .ref (G.2.1 x0)), (1, .int x1), (2, .int x2)] [] Γ σ := fun x2 σ e => hb (x2, σ) e
  have hx0 : ∀ (σ9 : mm), r = .inr σ9 → WP l G yX13_parish cX13_parish 3 (some .int) d 0 0 Q 0 0 78 [(0, .ref (G.2.1 x0)), (1, .int x1)] [] Γ σ9 := fun σ9 e => kx0 σ9 (hx _ e)
  unfold fX13_parish_L54 at h
  have h := un2_some h
  show WP l G yX13_parish cX13_parish 3 (some .int) d 0 0 Q 0 0 54 [(0, .ref (G.2.1 x0)), (1, .int x1), (2, .int x2)] [] Γ σ
  refine r_iload_n 2 dX13_parish_54 rfl ?_
  refine r_bipush (v := 102) dX13_parish_55 (by decide) ?_
  refine r_icmp_ge 78 dX13_parish_57 (by decide) h (fun _ h => ?_) (fun _ h => ?_)
  · obtain rfl := Option.some.inj h
    refine r_pick [0, 1] rfl ?_
    exact hx0 _ rfl
  · refine r_aload_n 0 dX13_parish_60 rfl ?_
    refine q_getR (e9 := (1, 0)) dX13_parish_61 fd_X13_98 t0 rfl h (fun r1 tr1 h => ?_)
    refine r_iload_n 2 dX13_parish_64 rfl ?_
    refine r_aload_n 0 dX13_parish_65 rfl ?_
    refine q_getR (e9 := (1, 0)) dX13_parish_66 fd_X13_101 t0 rfl h (fun r2 tr2 h => ?_)
    refine r_iload_n 2 dX13_parish_69 rfl ?_
    refine q_iald dX13_parish_70 tr2 h (fun v3 h => ?_)
    refine q_iast dX13_parish_71 tr1 h (fun τ4 h => ?_)
    refine q_iinc (v := 1) 2 (fun v5 => [(2, .int v5), (0, .ref (G.2.1 x0)), (1, .int x1)]) dX13_parish_72 rfl (by decide) (by decide) (fun _ => rfl) h (fun v5 h => ?_)
    refine r_goto 54 dX13_parish_75 (by decide) ?_
    obtain rfl := Option.some.inj h
    refine r_pick [1, 2, 0] rfl ?_
    exact hb _ _ rfl
theorem sX13_parish_L80 {l : Launch} {G : gg} {Γ : ly} {d : Nat} {Q : Option Value → ly → mm → Prop} (hdd : 7 ≤ d) (x0 : Nat) (x1 : Int32) (t0 : tyOK Γ (0, 12) x0) {K : mm → Prop} (kx0 : ∀ (σ9 : mm), K σ9 → WP l G yX13_parish cX13_parish 3 (some .int) d 0 0 Q 0 0 104 [(0, .ref (G.2.1 x0)), (1, .int x1)] [] Γ σ9) : ∀ (N : Nat) (s : (Int32 × mm)) (b : mm), loopN (fX13_parish_L80 Γ.2 x0 x1) N s = some b → K b → WP l G yX13_parish cX13_parish 3 (some .int) d 0 0 Q 0 0 80 [(0, .ref (G.2.1 x0)), (1, .int x1), (2, .int s.1)] [] Γ s.2 := by
  refine r_loop (f := fX13_parish_L80 Γ.2 x0 x1) (hlv := fun s => [(0, .ref (G.2.1 x0)), (1, .int x1), (2, .int s.1)]) (hsg := fun s => s.2) ?_
  rintro ⟨x2, σ⟩ r h hb hx
  have hb : ∀ (x2 : Int32) (σ : mm), r = .inl (x2, σ) → WP l G yX13_parish cX13_parish 3 (some .int) d 0 0 Q 0 0 80 [(0, .ref (G.2.1 x0)), (1, .int x1), (2, .int x2)] [] Γ σ := fun x2 σ e => hb (x2, σ) e
  have hx0 : ∀ (σ9 : mm), r = .inr σ9 → WP l G yX13_parish cX13_parish 3 (some .int) d 0 0 Q 0 0 104 [(0, .ref (G.2.1 x0)), (1, .int x1)] [] Γ σ9 := fun σ9 e => kx0 σ9 (hx _ e)
  unfold fX13_parish_L80 at h
  have h := un2_some h
  show WP l G yX13_parish cX13_parish 3 (some .int) d 0 0 Q 0 0 80 [(0, .ref (G.2.1 x0)), (1, .int x1), (2, .int x2)] [] Γ σ
  refine r_iload_n 2 dX13_parish_80 rfl ?_
  refine r_bipush (v := 18) dX13_parish_81 (by decide) ?_
  refine r_icmp_ge 104 dX13_parish_83 (by decide) h (fun _ h => ?_) (fun _ h => ?_)
  · obtain rfl := Option.some.inj h
    refine r_pick [0, 1] rfl ?_
    exact hx0 _ rfl
  · refine r_aload_n 0 dX13_parish_86 rfl ?_
    refine q_getR (e9 := (4, 0)) dX13_parish_87 fd_X13_113 t0 rfl h (fun r1 tr1 h => ?_)
    refine r_iload_n 2 dX13_parish_90 rfl ?_
    refine r_aload_n 0 dX13_parish_91 rfl ?_
    refine q_getR (e9 := (4, 0)) dX13_parish_92 fd_X13_117 t0 rfl h (fun r2 tr2 h => ?_)
    refine r_iload_n 2 dX13_parish_95 rfl ?_
    refine q_lald dX13_parish_96 tr2 h (fun v3 h => ?_)
    refine q_last dX13_parish_97 tr1 h (fun τ4 h => ?_)
    refine q_iinc (v := 1) 2 (fun v5 => [(2, .int v5), (0, .ref (G.2.1 x0)), (1, .int x1)]) dX13_parish_98 rfl (by decide) (by decide) (fun _ => rfl) h (fun v5 h => ?_)
    refine r_goto 80 dX13_parish_101 (by decide) ?_
    obtain rfl := Option.some.inj h
    refine r_pick [1, 2, 0] rfl ?_
    exact hb _ _ rfl
theorem kX13_parish {l : Launch} {G : gg} {Γ : ly} {σ : mm} (d : Nat) (hdd : 7 ≤ d) (x0 : Nat) (t0 : tyOK Γ (0, 12) x0) (r : (Int32 × mm)) (h : fX13_parish Γ.2 σ x0 = some r) : CT l G yX13_parish cX13_parish 3 (some .int) d 0 0 [.ref (G.2.1 x0)] Γ σ (PP (some (.int r.1)) Γ r.2) := by
  refine CT.ofWP (by decide) (Nat.le_of_ble_eq_true rfl) ?_
  have hQ : PP (some (.int r.1)) Γ r.2 (some (.int r.1)) Γ r.2 := PP.self
  generalize PP (some (.int r.1)) Γ r.2 = Q at hQ ⊢
  show WP l G yX13_parish cX13_parish 3 (some .int) d 0 0 Q 0 0 0 [(0, .ref (G.2.1 x0))] [] Γ σ
  unfold fX13_parish at h
  refine r_aload_n 0 dX13_parish_0 rfl ?_
  refine r_sipush (v := 900) dX13_parish_1 (by decide) ?_
  obtain ⟨τ1, eτ1, h⟩ := bd0_some h
  refine q_cVV [.int (900 : Int32)] dX13_parish_4 cv_X13_212 (ci := 12) rfl rfl t0 rfl rfl (Nat.le_of_ble_eq_true rfl) (by omega) (kX13_begin (d - 1) (by omega) x0 (900 : Int32) t0 τ1 eτ1) ?_
  refine r_aload_n 0 dX13_parish_7 rfl ?_
  obtain ⟨τ2, eτ2, h⟩ := bd0_some h
  refine q_cVV [] dX13_parish_8 cv_X13_148 (ci := 12) rfl rfl t0 rfl rfl (Nat.le_of_ble_eq_true rfl) (by omega) (kX13_startRead (d - 1) (by omega) x0 t0 τ2 eτ2) ?_
  refine r_aload_n 0 dX13_parish_11 rfl ?_
  refine r_iconst (v := 0) dX13_parish_12 (by decide) ?_
  refine q_putI dX13_parish_13 fd_X13_182 t0 h (fun τ3 h => ?_)
  refine r_iconst (v := 0) dX13_parish_16 (by decide) ?_
  refine r_istore_n (lv' := [(1, .int (0 : Int32)), (0, .ref (G.2.1 x0))]) dX13_parish_17 (by decide) rfl ?_
  obtain ⟨b4, eb4, h⟩ := bd0_some h
  refine r_pick [1, 0] rfl ?_
  refine sX13_parish_L18 hdd x0 t0 (K := fun b => b = b4) ?_ ?_ 1000 ((0 : Int32), τ3) b4 eb4 rfl
  · rintro τ5 rfl
    have h := cs2_0 h
    exact tX13_parish_b39 hdd τ5 x0 t0 _ h hQ
  · rintro v6 τ7 rfl
    have h := cs2_1 h
    have h := un2_some h
    refine r_iconst (v := 0) dX13_parish_52 (by decide) ?_
    refine r_istore_n (lv' := [(2, .int (0 : Int32)), (0, .ref (G.2.1 x0)), (1, .int v6)]) dX13_parish_53 (by decide) rfl ?_
    obtain ⟨b8, eb8, h⟩ := bd0_some h
    refine r_pick [1, 2, 0] rfl ?_
    refine sX13_parish_L54 hdd x0 v6 t0 (K := fun b => b = b8) ?_ 1000 ((0 : Int32), τ7) b8 eb8 rfl
    rintro τ9 rfl
    refine r_iconst (v := 0) dX13_parish_78 (by decide) ?_
    refine r_istore_n (lv' := [(2, .int (0 : Int32)), (0, .ref (G.2.1 x0)), (1, .int v6)]) dX13_parish_79 (by decide) rfl ?_
    obtain ⟨b10, eb10, h⟩ := bd0_some h
    refine r_pick [1, 2, 0] rfl ?_
    refine sX13_parish_L80 hdd x0 v6 t0 (K := fun b => b = b10) ?_ 1000 ((0 : Int32), τ9) b10 eb10 rfl
    rintro τ11 rfl
    refine r_aload_n 0 dX13_parish_104 rfl ?_
    obtain ⟨τ12, eτ12, h⟩ := bd0_some h
    refine q_cVV [] dX13_parish_105 cv_X13_151 (ci := 12) rfl rfl t0 rfl rfl (Nat.le_of_ble_eq_true rfl) (by omega) (kX13_startSo (d - 1) (by omega) x0 t0 τ12 eτ12) ?_
    refine r_aload_n 0 dX13_parish_108 rfl ?_
    refine r_iconst (v := 0) dX13_parish_109 (by decide) ?_
    refine q_putI dX13_parish_110 fd_X13_221 t0 h (fun τ13 h => ?_)
    refine r_iload_n 1 dX13_parish_113 rfl ?_
    obtain rfl := Option.some.inj h
    exact r_ireturn dX13_parish_114 rfl hQ (Nat.le_refl _) (Nat.le_refl _)
theorem kX13_fault {l : Launch} {G : gg} {Γ : ly} {σ : mm} (d : Nat) (hdd : 0 ≤ d) (x0 : Nat) (t0 : tyOK Γ (0, 12) x0) (r : (Int32 × mm)) (h : fX13_fault Γ.2 σ x0 = some r) : CT l G yX13_fault cX13_fault 1 (some .int) d 0 0 [.ref (G.2.1 x0)] Γ σ (PP (some (.int r.1)) Γ r.2) := by
  refine CT.ofWP (by decide) (Nat.le_of_ble_eq_true rfl) ?_
  have hQ : PP (some (.int r.1)) Γ r.2 (some (.int r.1)) Γ r.2 := PP.self
  generalize PP (some (.int r.1)) Γ r.2 = Q at hQ ⊢
  show WP l G yX13_fault cX13_fault 1 (some .int) d 0 0 Q 0 0 0 [(0, .ref (G.2.1 x0))] [] Γ σ
  unfold fX13_fault at h
  refine r_aload_n 0 dX13_fault_0 rfl ?_
  refine r_iconst (v := 0) dX13_fault_1 (by decide) ?_
  refine q_putI dX13_fault_2 fd_X13_1 t0 h (fun τ1 h => ?_)
  refine r_aload_n 0 dX13_fault_5 rfl ?_
  refine r_getI dX13_fault_6 fd_X13_66 t0 ?_
  obtain rfl := Option.some.inj h
  exact r_ireturn dX13_fault_9 rfl hQ (Nat.le_refl _) (Nat.le_refl _)
theorem kX13_isPerson {l : Launch} {G : gg} {Γ : ly} {σ : mm} (d : Nat) (hdd : 1 ≤ d) (x0 : Nat) (x1 : Int32) (t0 : tyOK Γ (0, 12) x0) (r : Int32) (h : fX13_isPerson Γ.2 σ x0 x1 = some r) : CT l G yX13_isPerson cX13_isPerson 2 (some .boolean) d 0 0 [.ref (G.2.1 x0), .int x1] Γ σ (PP (some (.int r)) Γ σ) := by
  refine CT.ofWP (by decide) (Nat.le_of_ble_eq_true rfl) ?_
  have hQ : PP (some (.int r)) Γ σ (some (.int r)) Γ σ := PP.self
  generalize PP (some (.int r)) Γ σ = Q at hQ ⊢
  show WP l G yX13_isPerson cX13_isPerson 2 (some .boolean) d 0 0 Q 0 0 0 [(0, .ref (G.2.1 x0)), (1, .int x1)] [] Γ σ
  unfold fX13_isPerson at h
  refine r_iload_n 1 dX13_isPerson_0 rfl ?_
  refine r_iconst (v := 0) dX13_isPerson_1 (by decide) ?_
  refine r_aload_n 0 dX13_isPerson_2 rfl ?_
  refine q_getR (e9 := (1, 0)) dX13_isPerson_3 fd_X13_98 t0 rfl h (fun r1 tr1 h => ?_)
  refine r_iconst (v := 0) dX13_isPerson_6 (by decide) ?_
  refine q_iald dX13_isPerson_7 tr1 h (fun v2 h => ?_)
  refine r_iconst (v := 1) dX13_isPerson_8 (by decide) ?_
  refine r_isub dX13_isPerson_9 ?_
  obtain ⟨v3, ev3, h⟩ := bd0_some h
  refine q_cSI [.int x1, .int (0 : Int32), .int (v2 - (1 : Int32))] dX13_isPerson_10 cs_X13_75 rfl rfl (Nat.le_of_ble_eq_true rfl) (by omega) (kX13_isIn (d - 1) (by omega) x1 (0 : Int32) (v2 - (1 : Int32))  v3 ev3) ?_
  obtain ⟨hbz, h⟩ := rZ_some h
  obtain rfl := Option.some.inj h
  exact r_zreturn dX13_isPerson_13 rfl hbz hQ (Nat.le_refl _) (Nat.le_refl _)
theorem kX13_isGlass {l : Launch} {G : gg} {Γ : ly} {σ : mm} (d : Nat) (hdd : 1 ≤ d) (x0 : Nat) (x1 : Int32) (t0 : tyOK Γ (0, 12) x0) (r : Int32) (h : fX13_isGlass Γ.2 σ x0 x1 = some r) : CT l G yX13_isGlass cX13_isGlass 2 (some .boolean) d 0 0 [.ref (G.2.1 x0), .int x1] Γ σ (PP (some (.int r)) Γ σ) := by
  refine CT.ofWP (by decide) (Nat.le_of_ble_eq_true rfl) ?_
  have hQ : PP (some (.int r)) Γ σ (some (.int r)) Γ σ := PP.self
  generalize PP (some (.int r)) Γ σ = Q at hQ ⊢
  show WP l G yX13_isGlass cX13_isGlass 2 (some .boolean) d 0 0 Q 0 0 0 [(0, .ref (G.2.1 x0)), (1, .int x1)] [] Γ σ
  unfold fX13_isGlass at h
  refine r_iload_n 1 dX13_isGlass_0 rfl ?_
  refine r_iconst (v := 0) dX13_isGlass_1 (by decide) ?_
  refine r_aload_n 0 dX13_isGlass_2 rfl ?_
  refine q_getR (e9 := (1, 0)) dX13_isGlass_3 fd_X13_98 t0 rfl h (fun r1 tr1 h => ?_)
  refine r_iconst (v := 1) dX13_isGlass_6 (by decide) ?_
  refine q_iald dX13_isGlass_7 tr1 h (fun v2 h => ?_)
  refine r_iconst (v := 1) dX13_isGlass_8 (by decide) ?_
  refine r_isub dX13_isGlass_9 ?_
  obtain ⟨v3, ev3, h⟩ := bd0_some h
  refine q_cSI [.int x1, .int (0 : Int32), .int (v2 - (1 : Int32))] dX13_isGlass_10 cs_X13_75 rfl rfl (Nat.le_of_ble_eq_true rfl) (by omega) (kX13_isIn (d - 1) (by omega) x1 (0 : Int32) (v2 - (1 : Int32))  v3 ev3) ?_
  obtain ⟨hbz, h⟩ := rZ_some h
  obtain rfl := Option.some.inj h
  exact r_zreturn dX13_isGlass_13 rfl hbz hQ (Nat.le_refl _) (Nat.le_refl _)
theorem kX13_isLapsed {l : Launch} {G : gg} {Γ : ly} {σ : mm} (d : Nat) (hdd : 1 ≤ d) (x0 : Nat) (x1 : Int32) (t0 : tyOK Γ (0, 12) x0) (r : Int32) (h : fX13_isLapsed Γ.2 σ x0 x1 = some r) : CT l G yX13_isLapsed cX13_isLapsed 2 (some .boolean) d 0 0 [.ref (G.2.1 x0), .int x1] Γ σ (PP (some (.int r)) Γ σ) := by
  refine CT.ofWP (by decide) (Nat.le_of_ble_eq_true rfl) ?_
  have hQ : PP (some (.int r)) Γ σ (some (.int r)) Γ σ := PP.self
  generalize PP (some (.int r)) Γ σ = Q at hQ ⊢
  show WP l G yX13_isLapsed cX13_isLapsed 2 (some .boolean) d 0 0 Q 0 0 0 [(0, .ref (G.2.1 x0)), (1, .int x1)] [] Γ σ
  unfold fX13_isLapsed at h
  refine r_aload_n 0 dX13_isLapsed_0 rfl ?_
  refine q_getR (e9 := (1, 0)) dX13_isLapsed_1 fd_X13_98 t0 rfl h (fun r1 tr1 h => ?_)
  refine r_bipush (v := 104) dX13_isLapsed_4 (by decide) ?_
  refine q_iald dX13_isLapsed_6 tr1 h (fun v2 h => ?_)
  refine r_iload_n 1 dX13_isLapsed_7 rfl ?_
  obtain ⟨v3, ev3, h⟩ := bd0_some h
  refine q_cSI [.int v2, .int x1] dX13_isLapsed_8 cs_X13_185 rfl rfl (Nat.le_of_ble_eq_true rfl) (by omega) (kX13_has (d - 1) (by omega) v2 x1  v3 ev3) ?_
  obtain ⟨hbz, h⟩ := rZ_some h
  obtain rfl := Option.some.inj h
  exact r_zreturn dX13_isLapsed_11 rfl hbz hQ (Nat.le_refl _) (Nat.le_refl _)
theorem sX13_isDamp_L2 {l : Launch} {G : gg} {Γ : ly} {d : Nat} {Q : Option Value → ly → mm → Prop} (hdd : 1 ≤ d) (σ : mm) (x0 : Nat) (x1 : Int32) (t0 : tyOK Γ (0, 12) x0) {K : (Unit ⊕ Unit) → Prop} (kx0 : K (.inl ()) → WP l G yX13_isDamp cX13_isDamp 3 (some .boolean) d 0 0 Q 0 0 38 [] [] Γ σ) (kx1 : K (.inr ()) → WP l G yX13_isDamp cX13_isDamp 3 (some .boolean) d 0 0 Q 0 0 46 [] [] Γ σ) : ∀ (N : Nat) (s : Int32) (b : (Unit ⊕ Unit)), loopN (fX13_isDamp_L2 Γ.2 σ x0 x1) N s = some b → K b → WP l G yX13_isDamp cX13_isDamp 3 (some .boolean) d 0 0 Q 0 0 2 [(0, .ref (G.2.1 x0)), (1, .int x1), (2, .int s)] [] Γ σ := by
  refine r_loop (f := fX13_isDamp_L2 Γ.2 σ x0 x1) (hlv := fun s => [(0, .ref (G.2.1 x0)), (1, .int x1), (2, .int s)]) (hsg := fun s => σ) ?_
  rintro x2 r h hb hx
  have hx0 : r = .inr (.inl ()) → WP l G yX13_isDamp cX13_isDamp 3 (some .boolean) d 0 0 Q 0 0 38 [] [] Γ σ := fun e => kx0  (hx _ e)
  have hx1 : r = .inr (.inr ()) → WP l G yX13_isDamp cX13_isDamp 3 (some .boolean) d 0 0 Q 0 0 46 [] [] Γ σ := fun e => kx1  (hx _ e)
  unfold fX13_isDamp_L2 at h
  show WP l G yX13_isDamp cX13_isDamp 3 (some .boolean) d 0 0 Q 0 0 2 [(0, .ref (G.2.1 x0)), (1, .int x1), (2, .int x2)] [] Γ σ
  refine r_iload_n 2 dX13_isDamp_2 rfl ?_
  refine r_aload_n 0 dX13_isDamp_3 rfl ?_
  refine q_getR (e9 := (1, 0)) dX13_isDamp_4 fd_X13_98 t0 rfl h (fun r1 tr1 h => ?_)
  refine r_bipush (v := 7) dX13_isDamp_7 (by decide) ?_
  refine q_iald dX13_isDamp_9 tr1 h (fun v2 h => ?_)
  refine r_icmp_ge 46 dX13_isDamp_10 (by decide) h (fun _ h => ?_) (fun _ h => ?_)
  · obtain rfl := Option.some.inj h
    refine r_pick [] rfl ?_
    exact hx1  rfl
  · refine r_iload_n 1 dX13_isDamp_13 rfl ?_
    refine r_aload_n 0 dX13_isDamp_14 rfl ?_
    refine q_getR (e9 := (1, 0)) dX13_isDamp_15 fd_X13_98 t0 rfl h (fun r3 tr3 h => ?_)
    refine r_bipush (v := 72) dX13_isDamp_18 (by decide) ?_
    refine r_iload_n 2 dX13_isDamp_20 rfl ?_
    refine r_iadd dX13_isDamp_21 ?_
    refine q_iald dX13_isDamp_22 tr3 h (fun v4 h => ?_)
    refine r_aload_n 0 dX13_isDamp_23 rfl ?_
    refine q_getR (e9 := (1, 0)) dX13_isDamp_24 fd_X13_98 t0 rfl h (fun r5 tr5 h => ?_)
    refine r_bipush (v := 78) dX13_isDamp_27 (by decide) ?_
    refine r_iload_n 2 dX13_isDamp_29 rfl ?_
    refine r_iadd dX13_isDamp_30 ?_
    refine q_iald dX13_isDamp_31 tr5 h (fun v6 h => ?_)
    obtain ⟨v7, ev7, h⟩ := bd0_some h
    refine q_cSI [.int x1, .int v4, .int v6] dX13_isDamp_32 cs_X13_75 rfl rfl (Nat.le_of_ble_eq_true rfl) (by omega) (kX13_isIn (d - 1) (by omega) x1 v4 v6  v7 ev7) ?_
    refine r_if_eq 40 dX13_isDamp_35 (by decide) h (fun _ h => ?_) (fun _ h => ?_)
    · refine q_iinc (v := 1) 2 (fun v8 => [(2, .int v8), (0, .ref (G.2.1 x0)), (1, .int x1)]) dX13_isDamp_40 rfl (by decide) (by decide) (fun _ => rfl) h (fun v8 h => ?_)
      refine r_goto 2 dX13_isDamp_43 (by decide) ?_
      obtain rfl := Option.some.inj h
      refine r_pick [1, 2, 0] rfl ?_
      exact hb _ rfl
    · obtain rfl := Option.some.inj h
      refine r_pick [] rfl ?_
      exact hx0  rfl
theorem kX13_isDamp {l : Launch} {G : gg} {Γ : ly} {σ : mm} (d : Nat) (hdd : 1 ≤ d) (x0 : Nat) (x1 : Int32) (t0 : tyOK Γ (0, 12) x0) (r : Int32) (h : fX13_isDamp Γ.2 σ x0 x1 = some r) : CT l G yX13_isDamp cX13_isDamp 3 (some .boolean) d 0 0 [.ref (G.2.1 x0), .int x1] Γ σ (PP (some (.int r)) Γ σ) := by
  refine CT.ofWP (by decide) (Nat.le_of_ble_eq_true rfl) ?_
  have hQ : PP (some (.int r)) Γ σ (some (.int r)) Γ σ := PP.self
  generalize PP (some (.int r)) Γ σ = Q at hQ ⊢
  show WP l G yX13_isDamp cX13_isDamp 3 (some .boolean) d 0 0 Q 0 0 0 [(0, .ref (G.2.1 x0)), (1, .int x1)] [] Γ σ
  unfold fX13_isDamp at h
  refine r_iconst (v := 0) dX13_isDamp_0 (by decide) ?_
  refine r_istore_n (lv' := [(2, .int (0 : Int32)), (0, .ref (G.2.1 x0)), (1, .int x1)]) dX13_isDamp_1 (by decide) rfl ?_
  obtain ⟨b1, eb1, h⟩ := bd0_some h
  refine r_pick [1, 2, 0] rfl ?_
  refine sX13_isDamp_L2 hdd σ x0 x1 t0 (K := fun b => b = b1) ?_ ?_ 1000 (0 : Int32) b1 eb1 rfl
  · rintro rfl
    have h := cs2_0 h
    refine r_iconst (v := 1) dX13_isDamp_38 (by decide) ?_
    obtain rfl := Option.some.inj h
    exact r_zreturn dX13_isDamp_39 rfl (by decide) hQ (Nat.le_refl _) (Nat.le_refl _)
  · rintro rfl
    have h := cs2_1 h
    refine r_iconst (v := 0) dX13_isDamp_46 (by decide) ?_
    obtain rfl := Option.some.inj h
    exact r_zreturn dX13_isDamp_47 rfl (by decide) hQ (Nat.le_refl _) (Nat.le_refl _)
theorem tX13_isUp_b73 {l : Launch} {G : gg} {Γ : ly} {d : Nat} {Q : Option Value → ly → mm → Prop} (hdd : 0 ≤ d) (σ : mm)  (s0 : Int32)   (r : Int32) (h : fX13_isUp_b73 Γ.2 σ s0 = some r) (hQ : Q (some (.int r)) Γ σ) : WP l G yX13_isUp cX13_isUp 6 (some .boolean) d 0 0 Q 0 0 73 [] [.int s0] Γ σ := by
  unfold fX13_isUp_b73 at h
  obtain ⟨hbz, h⟩ := rZ_some h
  obtain rfl := Option.some.inj h
  exact r_zreturn dX13_isUp_73 rfl hbz hQ (Nat.le_refl _) (Nat.le_refl _)
theorem tX13_isUp_b68 {l : Launch} {G : gg} {Γ : ly} {d : Nat} {Q : Option Value → ly → mm → Prop} (hdd : 0 ≤ d) (σ : mm)     (r : Int32) (h : fX13_isUp_b68 Γ.2 σ  = some r) (hQ : Q (some (.int r)) Γ σ) : WP l G yX13_isUp cX13_isUp 6 (some .boolean) d 0 0 Q 0 0 68 [] [] Γ σ := by
  unfold fX13_isUp_b68 at h
  refine r_iconst (v := 1) dX13_isUp_68 (by decide) ?_
  refine r_goto 73 dX13_isUp_69 (by decide) ?_
  exact tX13_isUp_b73 hdd σ (1 : Int32)  _ h hQ
theorem tX13_isUp_b72 {l : Launch} {G : gg} {Γ : ly} {d : Nat} {Q : Option Value → ly → mm → Prop} (hdd : 0 ≤ d) (σ : mm)     (r : Int32) (h : fX13_isUp_b72 Γ.2 σ  = some r) (hQ : Q (some (.int r)) Γ σ) : WP l G yX13_isUp cX13_isUp 6 (some .boolean) d 0 0 Q 0 0 72 [] [] Γ σ := by
  unfold fX13_isUp_b72 at h
  refine r_iconst (v := 0) dX13_isUp_72 (by decide) ?_
  exact tX13_isUp_b73 hdd σ (0 : Int32)  _ h hQ
theorem kX13_isUp {l : Launch} {G : gg} {Γ : ly} {σ : mm} (d : Nat) (hdd : 0 ≤ d) (x0 : Nat) (x1 : Int32) (x2 : Int32) (t0 : tyOK Γ (0, 12) x0) (r : Int32) (h : fX13_isUp Γ.2 σ x0 x1 x2 = some r) : CT l G yX13_isUp cX13_isUp 6 (some .boolean) d 0 0 [.ref (G.2.1 x0), .int x1, .int x2] Γ σ (PP (some (.int r)) Γ σ) := by
  refine CT.ofWP (by decide) (Nat.le_of_ble_eq_true rfl) ?_
  have hQ : PP (some (.int r)) Γ σ (some (.int r)) Γ σ := PP.self
  generalize PP (some (.int r)) Γ σ = Q at hQ ⊢
  show WP l G yX13_isUp cX13_isUp 6 (some .boolean) d 0 0 Q 0 0 0 [(0, .ref (G.2.1 x0)), (1, .int x1), (2, .int x2)] [] Γ σ
  unfold fX13_isUp at h
  refine r_iload_n 2 dX13_isUp_0 rfl ?_
  refine r_bipush (v := 24) dX13_isUp_1 (by decide) ?_
  refine r_irem dX13_isUp_3 (by decide) ?_
  refine q_nmI h (fun v1 h => ?_)
  refine r_istore_n (lv' := [(3, .int v1), (0, .ref (G.2.1 x0)), (1, .int x1), (2, .int x2)]) dX13_isUp_4 (by decide) rfl ?_
  refine r_aload_n 1 dX13_isUp_5 rfl ?_
  refine q_getR (e9 := (1, 0)) dX13_isUp_6 fd_X13_98 t0 rfl h (fun r2 tr2 h => ?_)
  refine r_bipush (v := 8) dX13_isUp_9 (by decide) ?_
  refine r_iload_n 2 dX13_isUp_11 rfl ?_
  refine r_iadd dX13_isUp_12 ?_
  refine q_iald dX13_isUp_13 tr2 h (fun v3 h => ?_)
  refine r_istore (lv' := [(4, .int v3), (3, .int v1), (0, .ref (G.2.1 x0)), (1, .int x1), (2, .int x2)]) dX13_isUp_14 (by decide) rfl ?_
  refine r_aload_n 2 dX13_isUp_16 rfl ?_
  refine q_getR (e9 := (1, 0)) dX13_isUp_17 fd_X13_98 t0 rfl h (fun r4 tr4 h => ?_)
  refine r_bipush (v := 16) dX13_isUp_20 (by decide) ?_
  refine r_iload_n 3 dX13_isUp_22 rfl ?_
  refine r_iadd dX13_isUp_23 ?_
  refine q_iald dX13_isUp_24 tr4 h (fun v5 h => ?_)
  refine r_istore (lv' := [(5, .int v5), (4, .int v3), (3, .int v1), (0, .ref (G.2.1 x0)), (1, .int x1), (2, .int x2)]) dX13_isUp_25 (by decide) rfl ?_
  refine r_iload 1 dX13_isUp_27 rfl ?_
  refine r_iload 0 dX13_isUp_29 rfl ?_
  refine r_icmp_eq 68 dX13_isUp_31 (by decide) h (fun _ h => ?_) (fun _ h => ?_)
  · refine r_pick [] rfl ?_
    exact tX13_isUp_b68 hdd σ  _ h hQ
  · refine r_iload 1 dX13_isUp_34 rfl ?_
    refine r_iload 0 dX13_isUp_36 rfl ?_
    refine r_icmp_ge 56 dX13_isUp_38 (by decide) h (fun _ h => ?_) (fun _ h => ?_)
    · refine r_iload_n 2 dX13_isUp_56 rfl ?_
      refine r_iload 1 dX13_isUp_57 rfl ?_
      refine r_icmp_ge 68 dX13_isUp_59 (by decide) h (fun _ h => ?_) (fun _ h => ?_)
      · refine r_pick [] rfl ?_
        exact tX13_isUp_b68 hdd σ  _ h hQ
      · refine r_iload_n 2 dX13_isUp_62 rfl ?_
        refine r_iload 0 dX13_isUp_63 rfl ?_
        refine r_icmp_ge 72 dX13_isUp_65 (by decide) h (fun _ h => ?_) (fun _ h => ?_)
        · refine r_pick [] rfl ?_
          exact tX13_isUp_b72 hdd σ  _ h hQ
        · refine r_pick [] rfl ?_
          exact tX13_isUp_b68 hdd σ  _ h hQ
    · refine r_iload_n 2 dX13_isUp_41 rfl ?_
      refine r_iload 1 dX13_isUp_42 rfl ?_
      refine r_icmp_lt 72 dX13_isUp_44 (by decide) h (fun _ h => ?_) (fun _ h => ?_)
      · refine r_pick [] rfl ?_
        exact tX13_isUp_b72 hdd σ  _ h hQ
      · refine r_iload_n 2 dX13_isUp_47 rfl ?_
        refine r_iload 0 dX13_isUp_48 rfl ?_
        refine r_icmp_ge 72 dX13_isUp_50 (by decide) h (fun _ h => ?_) (fun _ h => ?_)
        · refine r_pick [] rfl ?_
          exact tX13_isUp_b72 hdd σ  _ h hQ
        · refine r_goto 68 dX13_isUp_53 (by decide) ?_
          refine r_pick [] rfl ?_
          exact tX13_isUp_b68 hdd σ  _ h hQ
