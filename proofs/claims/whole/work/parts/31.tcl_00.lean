/-! the walks, 0 -/
theorem tX3_isWoken_b17 {l : Launch} {G : gg} {Γ : ly} {d : Nat} {Q : Option Value → ly → mm → Prop} (hdd : 0 ≤ d) (σ : mm)  (s0 : Int32)   (r : Int32) (h : fX3_isWoken_b17 Γ.2 σ s0 = some r) (hQ : Q (some (.int r)) Γ σ) : WP l G yX3_isWoken cX3_isWoken 2 (some .boolean) d 0 0 Q 0 0 17 [] [.int s0] Γ σ := by
  unfold fX3_isWoken_b17 at h
  obtain ⟨hbz, h⟩ := rZ_some h
  obtain rfl := Option.some.inj h
  exact r_zreturn dX3_isWoken_17 rfl hbz hQ (Nat.le_refl _) (Nat.le_refl _)
theorem kX3_isWoken {l : Launch} {G : gg} {Γ : ly} {σ : mm} (d : Nat) (hdd : 0 ≤ d) (x0 : Nat) (x1 : Int32) (t0 : tyOK Γ (0, 3) x0) (r : Int32) (h : fX3_isWoken Γ.2 σ x0 x1 = some r) : CT l G yX3_isWoken cX3_isWoken 2 (some .boolean) d 0 0 [.ref (G.2.1 x0), .int x1] Γ σ (PP (some (.int r)) Γ σ) := by
  refine CT.ofWP (by decide) (Nat.le_of_ble_eq_true rfl) ?_
  have hQ : PP (some (.int r)) Γ σ (some (.int r)) Γ σ := PP.self
  generalize PP (some (.int r)) Γ σ = Q at hQ ⊢
  show WP l G yX3_isWoken cX3_isWoken 2 (some .boolean) d 0 0 Q 0 0 0 [(0, .ref (G.2.1 x0)), (1, .int x1)] [] Γ σ
  unfold fX3_isWoken at h
  refine r_aload_n 0 dX3_isWoken_0 rfl ?_
  refine r_getI dX3_isWoken_1 fd_X3_44 t0 ?_
  refine r_iload_n 1 dX3_isWoken_4 rfl ?_
  refine r_ishr dX3_isWoken_5 ?_
  refine r_iconst (v := 1) dX3_isWoken_6 (by decide) ?_
  refine r_iand dX3_isWoken_7 ?_
  refine r_iconst (v := 1) dX3_isWoken_8 (by decide) ?_
  refine r_icmp_ne 16 dX3_isWoken_9 (by decide) h (fun _ h => ?_) (fun _ h => ?_)
  · refine r_iconst (v := 0) dX3_isWoken_16 (by decide) ?_
    refine r_pick [] rfl ?_
    exact tX3_isWoken_b17 hdd σ (0 : Int32)  _ h hQ
  · refine r_iconst (v := 1) dX3_isWoken_12 (by decide) ?_
    refine r_goto 17 dX3_isWoken_13 (by decide) ?_
    refine r_pick [] rfl ?_
    exact tX3_isWoken_b17 hdd σ (1 : Int32)  _ h hQ
theorem tX4_isUp_b88 {l : Launch} {G : gg} {Γ : ly} {d : Nat} {Q : Option Value → ly → mm → Prop} (hdd : 0 ≤ d) (σ : mm)  (s0 : Int32)   (r : Int32) (h : fX4_isUp_b88 Γ.2 σ s0 = some r) (hQ : Q (some (.int r)) Γ σ) : WP l G yX4_isUp cX4_isUp 4 (some .boolean) d 0 0 Q 0 0 88 [] [.int s0] Γ σ := by
  unfold fX4_isUp_b88 at h
  obtain ⟨hbz, h⟩ := rZ_some h
  obtain rfl := Option.some.inj h
  exact r_zreturn dX4_isUp_88 rfl hbz hQ (Nat.le_refl _) (Nat.le_refl _)
theorem tX4_isUp_b87 {l : Launch} {G : gg} {Γ : ly} {d : Nat} {Q : Option Value → ly → mm → Prop} (hdd : 0 ≤ d) (σ : mm)     (r : Int32) (h : fX4_isUp_b87 Γ.2 σ  = some r) (hQ : Q (some (.int r)) Γ σ) : WP l G yX4_isUp cX4_isUp 4 (some .boolean) d 0 0 Q 0 0 87 [] [] Γ σ := by
  unfold fX4_isUp_b87 at h
  refine r_iconst (v := 0) dX4_isUp_87 (by decide) ?_
  exact tX4_isUp_b88 hdd σ (0 : Int32)  _ h hQ
theorem tX4_isUp_b62 {l : Launch} {G : gg} {Γ : ly} {d : Nat} {Q : Option Value → ly → mm → Prop} (hdd : 0 ≤ d) (σ : mm)  (s0 : Int32)   (r : Int32) (h : fX4_isUp_b62 Γ.2 σ s0 = some r) (hQ : Q (some (.int r)) Γ σ) : WP l G yX4_isUp cX4_isUp 4 (some .boolean) d 0 0 Q 0 0 62 [] [.int s0] Γ σ := by
  unfold fX4_isUp_b62 at h
  obtain ⟨hbz, h⟩ := rZ_some h
  obtain rfl := Option.some.inj h
  exact r_zreturn dX4_isUp_62 rfl hbz hQ (Nat.le_refl _) (Nat.le_refl _)
theorem tX4_isUp_b57 {l : Launch} {G : gg} {Γ : ly} {d : Nat} {Q : Option Value → ly → mm → Prop} (hdd : 0 ≤ d) (σ : mm)     (r : Int32) (h : fX4_isUp_b57 Γ.2 σ  = some r) (hQ : Q (some (.int r)) Γ σ) : WP l G yX4_isUp cX4_isUp 4 (some .boolean) d 0 0 Q 0 0 57 [] [] Γ σ := by
  unfold fX4_isUp_b57 at h
  refine r_iconst (v := 1) dX4_isUp_57 (by decide) ?_
  refine r_goto 62 dX4_isUp_58 (by decide) ?_
  exact tX4_isUp_b62 hdd σ (1 : Int32)  _ h hQ
theorem kX4_isUp {l : Launch} {G : gg} {Γ : ly} {σ : mm} (d : Nat) (hdd : 0 ≤ d) (x0 : Nat) (x1 : Int32) (x2 : Int32) (t0 : tyOK Γ (0, 4) x0) (r : Int32) (h : fX4_isUp Γ.2 σ x0 x1 x2 = some r) : CT l G yX4_isUp cX4_isUp 4 (some .boolean) d 0 0 [.ref (G.2.1 x0), .int x1, .int x2] Γ σ (PP (some (.int r)) Γ σ) := by
  refine CT.ofWP (by decide) (Nat.le_of_ble_eq_true rfl) ?_
  have hQ : PP (some (.int r)) Γ σ (some (.int r)) Γ σ := PP.self
  generalize PP (some (.int r)) Γ σ = Q at hQ ⊢
  show WP l G yX4_isUp cX4_isUp 4 (some .boolean) d 0 0 Q 0 0 0 [(0, .ref (G.2.1 x0)), (1, .int x1), (2, .int x2)] [] Γ σ
  unfold fX4_isUp at h
  refine r_iload_n 2 dX4_isUp_0 rfl ?_
  refine r_bipush (v := 24) dX4_isUp_1 (by decide) ?_
  refine r_irem dX4_isUp_3 (by decide) ?_
  refine q_nmI h (fun v1 h => ?_)
  refine r_istore_n (lv' := [(3, .int v1), (0, .ref (G.2.1 x0)), (1, .int x1), (2, .int x2)]) dX4_isUp_4 (by decide) rfl ?_
  refine r_aload_n 1 dX4_isUp_5 rfl ?_
  refine q_getR (e9 := (1, 0)) dX4_isUp_6 fd_X4_15 t0 rfl h (fun r2 tr2 h => ?_)
  refine r_iload_n 2 dX4_isUp_9 rfl ?_
  refine q_iald dX4_isUp_10 tr2 h (fun v3 h => ?_)
  refine r_aload_n 1 dX4_isUp_11 rfl ?_
  refine q_getR (e9 := (1, 0)) dX4_isUp_12 fd_X4_19 t0 rfl h (fun r4 tr4 h => ?_)
  refine r_iload_n 2 dX4_isUp_15 rfl ?_
  refine q_iald dX4_isUp_16 tr4 h (fun v5 h => ?_)
  refine r_icmp_ne 22 dX4_isUp_17 (by decide) h (fun _ h => ?_) (fun _ h => ?_)
  · refine r_aload_n 1 dX4_isUp_22 rfl ?_
    refine q_getR (e9 := (1, 0)) dX4_isUp_23 fd_X4_19 t0 rfl h (fun r6 tr6 h => ?_)
    refine r_iload_n 2 dX4_isUp_26 rfl ?_
    refine q_iald dX4_isUp_27 tr6 h (fun v7 h => ?_)
    refine r_aload_n 1 dX4_isUp_28 rfl ?_
    refine q_getR (e9 := (1, 0)) dX4_isUp_29 fd_X4_15 t0 rfl h (fun r8 tr8 h => ?_)
    refine r_iload_n 2 dX4_isUp_32 rfl ?_
    refine q_iald dX4_isUp_33 tr8 h (fun v9 h => ?_)
    refine r_icmp_ge 63 dX4_isUp_34 (by decide) h (fun _ h => ?_) (fun _ h => ?_)
    · refine r_iload_n 0 dX4_isUp_63 rfl ?_
      refine r_aload_n 1 dX4_isUp_64 rfl ?_
      refine q_getR (e9 := (1, 0)) dX4_isUp_65 fd_X4_15 t0 rfl h (fun r10 tr10 h => ?_)
      refine r_iload_n 2 dX4_isUp_68 rfl ?_
      refine q_iald dX4_isUp_69 tr10 h (fun v11 h => ?_)
      refine r_icmp_lt 87 dX4_isUp_70 (by decide) h (fun _ h => ?_) (fun _ h => ?_)
      · refine r_pick [] rfl ?_
        exact tX4_isUp_b87 hdd σ  _ h hQ
      · refine r_iload_n 0 dX4_isUp_73 rfl ?_
        refine r_aload_n 1 dX4_isUp_74 rfl ?_
        refine q_getR (e9 := (1, 0)) dX4_isUp_75 fd_X4_19 t0 rfl h (fun r12 tr12 h => ?_)
        refine r_iload_n 2 dX4_isUp_78 rfl ?_
        refine q_iald dX4_isUp_79 tr12 h (fun v13 h => ?_)
        refine r_icmp_ge 87 dX4_isUp_80 (by decide) h (fun _ h => ?_) (fun _ h => ?_)
        · refine r_pick [] rfl ?_
          exact tX4_isUp_b87 hdd σ  _ h hQ
        · refine r_iconst (v := 1) dX4_isUp_83 (by decide) ?_
          refine r_goto 88 dX4_isUp_84 (by decide) ?_
          refine r_pick [] rfl ?_
          exact tX4_isUp_b88 hdd σ (1 : Int32)  _ h hQ
    · refine r_iload_n 0 dX4_isUp_37 rfl ?_
      refine r_aload_n 1 dX4_isUp_38 rfl ?_
      refine q_getR (e9 := (1, 0)) dX4_isUp_39 fd_X4_15 t0 rfl h (fun r14 tr14 h => ?_)
      refine r_iload_n 2 dX4_isUp_42 rfl ?_
      refine q_iald dX4_isUp_43 tr14 h (fun v15 h => ?_)
      refine r_icmp_ge 57 dX4_isUp_44 (by decide) h (fun _ h => ?_) (fun _ h => ?_)
      · refine r_pick [] rfl ?_
        exact tX4_isUp_b57 hdd σ  _ h hQ
      · refine r_iload_n 0 dX4_isUp_47 rfl ?_
        refine r_aload_n 1 dX4_isUp_48 rfl ?_
        refine q_getR (e9 := (1, 0)) dX4_isUp_49 fd_X4_19 t0 rfl h (fun r16 tr16 h => ?_)
        refine r_iload_n 2 dX4_isUp_52 rfl ?_
        refine q_iald dX4_isUp_53 tr16 h (fun v17 h => ?_)
        refine r_icmp_ge 61 dX4_isUp_54 (by decide) h (fun _ h => ?_) (fun _ h => ?_)
        · refine r_iconst (v := 0) dX4_isUp_61 (by decide) ?_
          refine r_pick [] rfl ?_
          exact tX4_isUp_b62 hdd σ (0 : Int32)  _ h hQ
        · refine r_pick [] rfl ?_
          exact tX4_isUp_b57 hdd σ  _ h hQ
  · refine r_iconst (v := 1) dX4_isUp_20 (by decide) ?_
    obtain rfl := Option.some.inj h
    exact r_zreturn dX4_isUp_21 rfl (by decide) hQ (Nat.le_refl _) (Nat.le_refl _)
theorem tX1_mood_b64 {l : Launch} {G : gg} {Γ : ly} {d : Nat} {Q : Option Value → ly → mm → Prop} (hdd : 1 ≤ d) (σ : mm)  (s0 : Int32)   (r : Int32) (h : fX1_mood_b64 Γ.2 σ s0 = some r) (hQ : Q (some (.int r)) Γ σ) : WP l G yX1_mood cX1_mood 5 (some .int) d 0 0 Q 0 0 64 [] [.int s0] Γ σ := by
  unfold fX1_mood_b64 at h
  obtain rfl := Option.some.inj h
  exact r_ireturn dX1_mood_64 rfl hQ (Nat.le_refl _) (Nat.le_refl _)
theorem tX1_mood_b59 {l : Launch} {G : gg} {Γ : ly} {d : Nat} {Q : Option Value → ly → mm → Prop} (hdd : 1 ≤ d) (σ : mm)     (r : Int32) (h : fX1_mood_b59 Γ.2 σ  = some r) (hQ : Q (some (.int r)) Γ σ) : WP l G yX1_mood cX1_mood 5 (some .int) d 0 0 Q 0 0 59 [] [] Γ σ := by
  unfold fX1_mood_b59 at h
  refine r_iconst (v := 5) dX1_mood_59 (by decide) ?_
  refine r_goto 64 dX1_mood_60 (by decide) ?_
  exact tX1_mood_b64 hdd σ (5 : Int32)  _ h hQ
theorem tX1_mood_b40 {l : Launch} {G : gg} {Γ : ly} {d : Nat} {Q : Option Value → ly → mm → Prop} (hdd : 1 ≤ d) (σ : mm) (x0 : Nat) (x1 : Int32) (x3 : Int32) (s0 : Int32) (t0 : tyOK Γ (0, 1) x0)  (r : Int32) (h : fX1_mood_b40 Γ.2 σ x0 x1 x3 s0 = some r) (hQ : Q (some (.int r)) Γ σ) : WP l G yX1_mood cX1_mood 5 (some .int) d 0 0 Q 0 0 40 [(0, .ref (G.2.1 x0)), (1, .int x1), (3, .int x3)] [.int s0] Γ σ := by
  unfold fX1_mood_b40 at h
  refine r_istore (lv' := [(4, .int s0), (0, .ref (G.2.1 x0)), (1, .int x1), (3, .int x3)]) dX1_mood_40 (by decide) rfl ?_
  refine r_iload 0 dX1_mood_42 rfl ?_
  refine r_if_ne 59 dX1_mood_44 (by decide) h (fun _ h => ?_) (fun _ h => ?_)
  · refine r_pick [] rfl ?_
    exact tX1_mood_b59 hdd σ  _ h hQ
  · refine r_aload_n 1 dX1_mood_47 rfl ?_
    refine q_getR (e9 := (0, 4)) dX1_mood_48 fd_X1_18 t0 rfl h (fun r1 tr1 h => ?_)
    refine r_iload_n 2 dX1_mood_51 rfl ?_
    refine r_iload_n 3 dX1_mood_52 rfl ?_
    obtain ⟨v2, ev2, h⟩ := bd0_some h
    refine q_cVI [.int x1, .int x3] dX1_mood_53 cv_X1_64 (ci := 4) rfl rfl tr1 rfl rfl (Nat.le_of_ble_eq_true rfl) (by omega) (kX4_isUp (d - 1) (by omega) r1 x1 x3 tr1 v2 ev2) ?_
    refine r_if_eq 63 dX1_mood_56 (by decide) h (fun _ h => ?_) (fun _ h => ?_)
    · refine r_iconst (v := 4) dX1_mood_63 (by decide) ?_
      refine r_pick [] rfl ?_
      exact tX1_mood_b64 hdd σ (4 : Int32)  _ h hQ
    · refine r_pick [] rfl ?_
      exact tX1_mood_b59 hdd σ  _ h hQ
theorem tX1_mood_b39 {l : Launch} {G : gg} {Γ : ly} {d : Nat} {Q : Option Value → ly → mm → Prop} (hdd : 1 ≤ d) (σ : mm) (x0 : Nat) (x1 : Int32) (x3 : Int32)  (t0 : tyOK Γ (0, 1) x0)  (r : Int32) (h : fX1_mood_b39 Γ.2 σ x0 x1 x3 = some r) (hQ : Q (some (.int r)) Γ σ) : WP l G yX1_mood cX1_mood 5 (some .int) d 0 0 Q 0 0 39 [(0, .ref (G.2.1 x0)), (1, .int x1), (3, .int x3)] [] Γ σ := by
  unfold fX1_mood_b39 at h
  refine r_iconst (v := 0) dX1_mood_39 (by decide) ?_
  exact tX1_mood_b40 hdd σ x0 x1 x3 (0 : Int32) t0 _ h hQ
theorem kX1_mood {l : Launch} {G : gg} {Γ : ly} {σ : mm} (d : Nat) (hdd : 1 ≤ d) (x0 : Nat) (x1 : Int32) (x2 : Int32) (x3 : Int32) (t0 : tyOK Γ (0, 1) x0) (r : Int32) (h : fX1_mood Γ.2 σ x0 x1 x2 x3 = some r) : CT l G yX1_mood cX1_mood 5 (some .int) d 0 0 [.ref (G.2.1 x0), .int x1, .int x2, .int x3] Γ σ (PP (some (.int r)) Γ σ) := by
  refine CT.ofWP (by decide) (Nat.le_of_ble_eq_true rfl) ?_
  have hQ : PP (some (.int r)) Γ σ (some (.int r)) Γ σ := PP.self
  generalize PP (some (.int r)) Γ σ = Q at hQ ⊢
  show WP l G yX1_mood cX1_mood 5 (some .int) d 0 0 Q 0 0 0 [(0, .ref (G.2.1 x0)), (1, .int x1), (2, .int x2), (3, .int x3)] [] Γ σ
  unfold fX1_mood at h
  refine r_iload_n 2 dX1_mood_0 rfl ?_
  refine r_aload_n 0 dX1_mood_1 rfl ?_
  refine q_getR (e9 := (0, 4)) dX1_mood_2 fd_X1_18 t0 rfl h (fun r1 tr1 h => ?_)
  refine r_getI dX1_mood_5 fd_X1_57 tr1 ?_
  refine r_icmp_ge 13 dX1_mood_8 (by decide) h (fun _ h => ?_) (fun _ h => ?_)
  · refine r_iload_n 3 dX1_mood_13 rfl ?_
    refine r_aload_n 0 dX1_mood_14 rfl ?_
    refine q_getR (e9 := (0, 3)) dX1_mood_15 fd_X1_22 t0 rfl h (fun r2 tr2 h => ?_)
    refine r_getI dX1_mood_18 fd_X1_43 tr2 ?_
    refine r_icmp_ne 39 dX1_mood_21 (by decide) h (fun _ h => ?_) (fun _ h => ?_)
    · refine r_pick [0, 1, 3] rfl ?_
      exact tX1_mood_b39 hdd σ x0 x1 x3 t0 _ h hQ
    · refine r_aload_n 0 dX1_mood_24 rfl ?_
      refine q_getR (e9 := (0, 3)) dX1_mood_25 fd_X1_22 t0 rfl h (fun r3 tr3 h => ?_)
      refine r_iload_n 1 dX1_mood_28 rfl ?_
      obtain ⟨v4, ev4, h⟩ := bd0_some h
      refine q_cVI [.int x1] dX1_mood_29 cv_X1_60 (ci := 3) rfl rfl tr3 rfl rfl (Nat.le_of_ble_eq_true rfl) (by omega) (kX3_isWoken (d - 1) (by omega) r3 x1 tr3 v4 ev4) ?_
      refine r_if_eq 39 dX1_mood_32 (by decide) h (fun _ h => ?_) (fun _ h => ?_)
      · refine r_pick [0, 1, 3] rfl ?_
        exact tX1_mood_b39 hdd σ x0 x1 x3 t0 _ h hQ
      · refine r_iconst (v := 1) dX1_mood_35 (by decide) ?_
        refine r_goto 40 dX1_mood_36 (by decide) ?_
        refine r_pick [0, 1, 3] rfl ?_
        exact tX1_mood_b40 hdd σ x0 x1 x3 (1 : Int32) t0 _ h hQ
  · refine r_iconst (v := 0) dX1_mood_11 (by decide) ?_
    obtain rfl := Option.some.inj h
    exact r_ireturn dX1_mood_12 rfl hQ (Nat.le_refl _) (Nat.le_refl _)
theorem tX4_isDamp_b38 {l : Launch} {G : gg} {Γ : ly} {d : Nat} {Q : Option Value → ly → mm → Prop} (hdd : 0 ≤ d) (σ : mm) (x0 : Nat) (x1 : Int32) (x2 : Int32)  (t0 : tyOK Γ (0, 4) x0)  (r : (Int32 ⊕ (Unit ⊕ Unit))) (h : fX4_isDamp_b38 Γ.2 σ x0 x1 x2 = some r) (hb : ∀ (x2 : Int32), r = .inl x2 → WP l G yX4_isDamp cX4_isDamp 3 (some .boolean) d 0 0 Q 0 0 2 [(0, .ref (G.2.1 x0)), (1, .int x1), (2, .int x2)] [] Γ σ) (hx0 : r = .inr (.inl ()) → WP l G yX4_isDamp cX4_isDamp 3 (some .boolean) d 0 0 Q 0 0 36 [] [] Γ σ) (hx1 : r = .inr (.inr ()) → WP l G yX4_isDamp cX4_isDamp 3 (some .boolean) d 0 0 Q 0 0 44 [] [] Γ σ) : WP l G yX4_isDamp cX4_isDamp 3 (some .boolean) d 0 0 Q 0 0 38 [(0, .ref (G.2.1 x0)), (1, .int x1), (2, .int x2)] [] Γ σ := by
  unfold fX4_isDamp_b38 at h
  refine q_iinc (v := 1) 2 (fun v1 => [(2, .int v1), (0, .ref (G.2.1 x0)), (1, .int x1)]) dX4_isDamp_38 rfl (by decide) (by decide) (fun _ => rfl) h (fun v1 h => ?_)
  refine r_goto 2 dX4_isDamp_41 (by decide) ?_
  obtain rfl := Option.some.inj h
  refine r_pick [1, 2, 0] rfl ?_
  exact hb _ rfl
theorem sX4_isDamp_L2 {l : Launch} {G : gg} {Γ : ly} {d : Nat} {Q : Option Value → ly → mm → Prop} (hdd : 0 ≤ d) (σ : mm) (x0 : Nat) (x1 : Int32) (t0 : tyOK Γ (0, 4) x0) {K : (Unit ⊕ Unit) → Prop} (kx0 : K (.inl ()) → WP l G yX4_isDamp cX4_isDamp 3 (some .boolean) d 0 0 Q 0 0 36 [] [] Γ σ) (kx1 : K (.inr ()) → WP l G yX4_isDamp cX4_isDamp 3 (some .boolean) d 0 0 Q 0 0 44 [] [] Γ σ) : ∀ (N : Nat) (s : Int32) (b : (Unit ⊕ Unit)), loopN (fX4_isDamp_L2 Γ.2 σ x0 x1) N s = some b → K b → WP l G yX4_isDamp cX4_isDamp 3 (some .boolean) d 0 0 Q 0 0 2 [(0, .ref (G.2.1 x0)), (1, .int x1), (2, .int s)] [] Γ σ := by
  refine r_loop (f := fX4_isDamp_L2 Γ.2 σ x0 x1) (hlv := fun s => [(0, .ref (G.2.1 x0)), (1, .int x1), (2, .int s)]) (hsg := fun s => σ) ?_
  rintro x2 r h hb hx
  have hx0 : r = .inr (.inl ()) → WP l G yX4_isDamp cX4_isDamp 3 (some .boolean) d 0 0 Q 0 0 36 [] [] Γ σ := fun e => kx0  (hx _ e)
  have hx1 : r = .inr (.inr ()) → WP l G yX4_isDamp cX4_isDamp 3 (some .boolean) d 0 0 Q 0 0 44 [] [] Γ σ := fun e => kx1  (hx _ e)
  unfold fX4_isDamp_L2 at h
  show WP l G yX4_isDamp cX4_isDamp 3 (some .boolean) d 0 0 Q 0 0 2 [(0, .ref (G.2.1 x0)), (1, .int x1), (2, .int x2)] [] Γ σ
  refine r_iload_n 2 dX4_isDamp_2 rfl ?_
  refine r_aload_n 0 dX4_isDamp_3 rfl ?_
  refine r_getI dX4_isDamp_4 fd_X4_69 t0 ?_
  refine r_icmp_ge 44 dX4_isDamp_7 (by decide) h (fun _ h => ?_) (fun _ h => ?_)
  · obtain rfl := Option.some.inj h
    refine r_pick [] rfl ?_
    exact hx1  rfl
  · refine r_iload_n 1 dX4_isDamp_10 rfl ?_
    refine r_aload_n 0 dX4_isDamp_11 rfl ?_
    refine q_getR (e9 := (1, 0)) dX4_isDamp_12 fd_X4_46 t0 rfl h (fun r1 tr1 h => ?_)
    refine r_iconst (v := 2) dX4_isDamp_15 (by decide) ?_
    refine r_iload_n 2 dX4_isDamp_16 rfl ?_
    refine r_imul dX4_isDamp_17 ?_
    refine q_iald dX4_isDamp_18 tr1 h (fun v2 h => ?_)
    refine r_icmp_lt 38 dX4_isDamp_19 (by decide) h (fun _ h => ?_) (fun _ h => ?_)
    · exact tX4_isDamp_b38 hdd σ x0 x1 x2 t0 _ h hb hx0 hx1
    · refine r_iload_n 1 dX4_isDamp_22 rfl ?_
      refine r_aload_n 0 dX4_isDamp_23 rfl ?_
      refine q_getR (e9 := (1, 0)) dX4_isDamp_24 fd_X4_46 t0 rfl h (fun r3 tr3 h => ?_)
      refine r_iconst (v := 2) dX4_isDamp_27 (by decide) ?_
      refine r_iload_n 2 dX4_isDamp_28 rfl ?_
      refine r_imul dX4_isDamp_29 ?_
      refine r_iconst (v := 1) dX4_isDamp_30 (by decide) ?_
      refine r_iadd dX4_isDamp_31 ?_
      refine q_iald dX4_isDamp_32 tr3 h (fun v4 h => ?_)
      refine r_icmp_gt 38 dX4_isDamp_33 (by decide) h (fun _ h => ?_) (fun _ h => ?_)
      · exact tX4_isDamp_b38 hdd σ x0 x1 x2 t0 _ h hb hx0 hx1
      · obtain rfl := Option.some.inj h
        refine r_pick [] rfl ?_
        exact hx0  rfl
theorem kX4_isDamp {l : Launch} {G : gg} {Γ : ly} {σ : mm} (d : Nat) (hdd : 0 ≤ d) (x0 : Nat) (x1 : Int32) (t0 : tyOK Γ (0, 4) x0) (r : Int32) (h : fX4_isDamp Γ.2 σ x0 x1 = some r) : CT l G yX4_isDamp cX4_isDamp 3 (some .boolean) d 0 0 [.ref (G.2.1 x0), .int x1] Γ σ (PP (some (.int r)) Γ σ) := by
  refine CT.ofWP (by decide) (Nat.le_of_ble_eq_true rfl) ?_
  have hQ : PP (some (.int r)) Γ σ (some (.int r)) Γ σ := PP.self
  generalize PP (some (.int r)) Γ σ = Q at hQ ⊢
  show WP l G yX4_isDamp cX4_isDamp 3 (some .boolean) d 0 0 Q 0 0 0 [(0, .ref (G.2.1 x0)), (1, .int x1)] [] Γ σ
  unfold fX4_isDamp at h
  refine r_iconst (v := 0) dX4_isDamp_0 (by decide) ?_
  refine r_istore_n (lv' := [(2, .int (0 : Int32)), (0, .ref (G.2.1 x0)), (1, .int x1)]) dX4_isDamp_1 (by decide) rfl ?_
  obtain ⟨b1, eb1, h⟩ := bd0_some h
  refine r_pick [1, 2, 0] rfl ?_
  refine sX4_isDamp_L2 hdd σ x0 x1 t0 (K := fun b => b = b1) ?_ ?_ 1000 (0 : Int32) b1 eb1 rfl
  · rintro rfl
    have h := cs2_0 h
    refine r_iconst (v := 1) dX4_isDamp_36 (by decide) ?_
    obtain rfl := Option.some.inj h
    exact r_zreturn dX4_isDamp_37 rfl (by decide) hQ (Nat.le_refl _) (Nat.le_refl _)
  · rintro rfl
    have h := cs2_1 h
    refine r_iconst (v := 0) dX4_isDamp_44 (by decide) ?_
    obtain rfl := Option.some.inj h
    exact r_zreturn dX4_isDamp_45 rfl (by decide) hQ (Nat.le_refl _) (Nat.le_refl _)
theorem tX3_runsAt_b59 {l : Launch} {G : gg} {Γ : ly} {d : Nat} {Q : Option Value → ly → mm → Prop} (hdd : 1 ≤ d) (σ : mm)  (s0 : Int32)   (r : Int32) (h : fX3_runsAt_b59 Γ.2 σ s0 = some r) (hQ : Q (some (.int r)) Γ σ) : WP l G yX3_runsAt cX3_runsAt 4 (some .int) d 0 0 Q 0 0 59 [] [.int s0] Γ σ := by
  unfold fX3_runsAt_b59 at h
  obtain rfl := Option.some.inj h
  exact r_ireturn dX3_runsAt_59 rfl hQ (Nat.le_refl _) (Nat.le_refl _)
theorem tX3_runsAt_b37 {l : Launch} {G : gg} {Γ : ly} {d : Nat} {Q : Option Value → ly → mm → Prop} (hdd : 1 ≤ d) (σ : mm) (x0 : Nat) (x2 : Int32) (x3 : Int32)  (t0 : tyOK Γ (0, 3) x0)  (r : Int32) (h : fX3_runsAt_b37 Γ.2 σ x0 x2 x3 = some r) (hQ : Q (some (.int r)) Γ σ) : WP l G yX3_runsAt cX3_runsAt 4 (some .int) d 0 0 Q 0 0 37 [(0, .ref (G.2.1 x0)), (2, .int x2), (3, .int x3)] [] Γ σ := by
  unfold fX3_runsAt_b37 at h
  refine r_aload_n 0 dX3_runsAt_37 rfl ?_
  refine q_getR (e9 := (0, 4)) dX3_runsAt_38 fd_X3_33 t0 rfl h (fun r1 tr1 h => ?_)
  refine r_iload_n 1 dX3_runsAt_41 rfl ?_
  obtain ⟨v2, ev2, h⟩ := bd0_some h
  refine q_cVI [.int x2] dX3_runsAt_42 cv_X3_93 (ci := 4) rfl rfl tr1 rfl rfl (Nat.le_of_ble_eq_true rfl) (by omega) (kX4_isDamp (d - 1) (by omega) r1 x2 tr1 v2 ev2) ?_
  refine r_if_eq 58 dX3_runsAt_45 (by decide) h (fun _ h => ?_) (fun _ h => ?_)
  · refine r_iload_n 2 dX3_runsAt_58 rfl ?_
    refine r_pick [] rfl ?_
    exact tX3_runsAt_b59 hdd σ x3  _ h hQ
  · refine r_iconst (v := 1) dX3_runsAt_48 (by decide) ?_
    refine r_iload_n 2 dX3_runsAt_49 rfl ?_
    refine r_iconst (v := 2) dX3_runsAt_50 (by decide) ?_
    refine r_idiv dX3_runsAt_51 (by decide) ?_
    refine r_max dX3_runsAt_52 mx_X3_90 (Nat.le_of_ble_eq_true rfl) (by omega) (Nat.le_refl _) (Nat.le_refl _) ?_
    refine r_goto 59 dX3_runsAt_55 (by decide) ?_
    refine r_pick [] rfl ?_
    exact tX3_runsAt_b59 hdd σ (mxI (1 : Int32) (x3 / (2 : Int32)))  _ h hQ
theorem kX3_runsAt {l : Launch} {G : gg} {Γ : ly} {σ : mm} (d : Nat) (hdd : 1 ≤ d) (x0 : Nat) (x1 : Int32) (x2 : Int32) (t0 : tyOK Γ (0, 3) x0) (r : Int32) (h : fX3_runsAt Γ.2 σ x0 x1 x2 = some r) : CT l G yX3_runsAt cX3_runsAt 4 (some .int) d 0 0 [.ref (G.2.1 x0), .int x1, .int x2] Γ σ (PP (some (.int r)) Γ σ) := by
  refine CT.ofWP (by decide) (Nat.le_of_ble_eq_true rfl) ?_
  have hQ : PP (some (.int r)) Γ σ (some (.int r)) Γ σ := PP.self
  generalize PP (some (.int r)) Γ σ = Q at hQ ⊢
  show WP l G yX3_runsAt cX3_runsAt 4 (some .int) d 0 0 Q 0 0 0 [(0, .ref (G.2.1 x0)), (1, .int x1), (2, .int x2)] [] Γ σ
  unfold fX3_runsAt at h
  refine r_aload_n 0 dX3_runsAt_0 rfl ?_
  refine q_getR (e9 := (1, 0)) dX3_runsAt_1 fd_X3_21 t0 rfl h (fun r1 tr1 h => ?_)
  refine r_iload_n 1 dX3_runsAt_4 rfl ?_
  refine q_iald dX3_runsAt_5 tr1 h (fun v2 h => ?_)
  refine r_iconst (v := 2) dX3_runsAt_6 (by decide) ?_
  refine r_icmp_ne 12 dX3_runsAt_7 (by decide) h (fun _ h => ?_) (fun _ h => ?_)
  · refine r_aload_n 0 dX3_runsAt_12 rfl ?_
    refine q_getR (e9 := (1, 0)) dX3_runsAt_13 fd_X3_24 t0 rfl h (fun r3 tr3 h => ?_)
    refine r_iload_n 1 dX3_runsAt_16 rfl ?_
    refine q_iald dX3_runsAt_17 tr3 h (fun v4 h => ?_)
    refine r_istore_n (lv' := [(3, .int v4), (0, .ref (G.2.1 x0)), (1, .int x1), (2, .int x2)]) dX3_runsAt_18 (by decide) rfl ?_
    refine r_aload_n 1 dX3_runsAt_19 rfl ?_
    refine q_getR (e9 := (1, 0)) dX3_runsAt_20 fd_X3_21 t0 rfl h (fun r5 tr5 h => ?_)
    refine r_iload_n 2 dX3_runsAt_23 rfl ?_
    refine q_iald dX3_runsAt_24 tr5 h (fun v6 h => ?_)
    refine r_iconst (v := 1) dX3_runsAt_25 (by decide) ?_
    refine r_icmp_ne 37 dX3_runsAt_26 (by decide) h (fun _ h => ?_) (fun _ h => ?_)
    · refine r_pick [1, 3, 0] rfl ?_
      exact tX3_runsAt_b37 hdd σ x0 x2 v4 t0 _ h hQ
    · refine r_iconst (v := 1) dX3_runsAt_29 (by decide) ?_
      refine r_iload_n 0 dX3_runsAt_30 rfl ?_
      refine r_iconst (v := 2) dX3_runsAt_31 (by decide) ?_
      refine r_idiv dX3_runsAt_32 (by decide) ?_
      refine r_max dX3_runsAt_33 mx_X3_90 (Nat.le_of_ble_eq_true rfl) (by omega) (Nat.le_refl _) (Nat.le_refl _) ?_
      refine q_nmI h (fun v7 h => ?_)
      refine r_istore_n (lv' := [(3, .int v7), (0, .ref (G.2.1 x0)), (1, .int x1), (2, .int x2)]) dX3_runsAt_36 (by decide) rfl ?_
      refine r_pick [1, 3, 0] rfl ?_
      exact tX3_runsAt_b37 hdd σ x0 x2 v7 t0 _ h hQ
  · refine r_iconst (v := 0) dX3_runsAt_10 (by decide) ?_
    obtain rfl := Option.some.inj h
    exact r_ireturn dX3_runsAt_11 rfl hQ (Nat.le_refl _) (Nat.le_refl _)
theorem kX4_fondNextDay {l : Launch} {G : gg} {Γ : ly} {σ : mm} (d : Nat) (hdd : 1 ≤ d) (x0 : Nat) (x1 : Int32) (x2 : Int32) (t0 : tyOK Γ (0, 4) x0) (r : Int32) (h : fX4_fondNextDay Γ.2 σ x0 x1 x2 = some r) : CT l G yX4_fondNextDay cX4_fondNextDay 4 (some .int) d 0 0 [.ref (G.2.1 x0), .int x1, .int x2] Γ σ (PP (some (.int r)) Γ σ) := by
  refine CT.ofWP (by decide) (Nat.le_of_ble_eq_true rfl) ?_
  have hQ : PP (some (.int r)) Γ σ (some (.int r)) Γ σ := PP.self
  generalize PP (some (.int r)) Γ σ = Q at hQ ⊢
  show WP l G yX4_fondNextDay cX4_fondNextDay 4 (some .int) d 0 0 Q 0 0 0 [(0, .ref (G.2.1 x0)), (1, .int x1), (2, .int x2)] [] Γ σ
  unfold fX4_fondNextDay at h
  refine r_bipush (v := 99) dX4_fondNextDay_0 (by decide) ?_
  refine r_iload_n 2 dX4_fondNextDay_2 rfl ?_
  refine r_aload_n 0 dX4_fondNextDay_3 rfl ?_
  refine q_getR (e9 := (1, 0)) dX4_fondNextDay_4 fd_X4_25 t0 rfl h (fun r1 tr1 h => ?_)
  refine r_iload_n 1 dX4_fondNextDay_7 rfl ?_
  refine q_iald dX4_fondNextDay_8 tr1 h (fun v2 h => ?_)
  refine r_iadd dX4_fondNextDay_9 ?_
  refine r_min dX4_fondNextDay_10 mx_X4_114 (Nat.le_of_ble_eq_true rfl) (by omega) (Nat.le_refl _) (Nat.le_refl _) ?_
  refine q_nmI h (fun v3 h => ?_)
  refine r_istore_n (lv' := [(3, .int v3), (0, .ref (G.2.1 x0)), (1, .int x1), (2, .int x2)]) dX4_fondNextDay_13 (by decide) rfl ?_
  refine r_iconst (v := 0) dX4_fondNextDay_14 (by decide) ?_
  refine r_iload_n 0 dX4_fondNextDay_15 rfl ?_
  refine r_aload_n 1 dX4_fondNextDay_16 rfl ?_
  refine q_getR (e9 := (1, 0)) dX4_fondNextDay_17 fd_X4_28 t0 rfl h (fun r4 tr4 h => ?_)
  refine r_iload_n 2 dX4_fondNextDay_20 rfl ?_
  refine q_iald dX4_fondNextDay_21 tr4 h (fun v5 h => ?_)
  refine r_isub dX4_fondNextDay_22 ?_
  refine r_max dX4_fondNextDay_23 mx_X4_120 (Nat.le_of_ble_eq_true rfl) (by omega) (Nat.le_refl _) (Nat.le_refl _) ?_
  obtain rfl := Option.some.inj h
  exact r_ireturn dX4_fondNextDay_26 rfl hQ (Nat.le_refl _) (Nat.le_refl _)
theorem tX1_look_b143 {l : Launch} {G : gg} {Γ : ly} {d : Nat} {Q : Option Value → ly → mm → Prop} (hdd : 2 ≤ d) (σ : mm) (x0 : Nat) (x1 : Int32) (x2 : Int32) (x3 : Int32) (x4 : Int32) (x5 : Int32) (x6 : Int32)  (t0 : tyOK Γ (0, 1) x0)  (r : ((Int32 × Int32 × Int32 × mm) ⊕ mm)) (h : fX1_look_b143 Γ.2 σ x0 x1 x2 x3 x4 x5 x6 = some r) (hb : ∀ (x4 : Int32) (x5 : Int32) (x6 : Int32) (σ9 : mm), r = .inl (x4, x5, x6, σ9) → WP l G yX1_look cX1_look 7 (none) d 0 0 Q 0 0 56 [(0, .ref (G.2.1 x0)), (1, .int x1), (2, .int x2), (3, .int x3), (4, .int x4), (5, .int x5), (6, .int x6)] [] Γ σ9) (hx0 : ∀ (σ9 : mm), r = .inr σ9 → WP l G yX1_look cX1_look 7 (none) d 0 0 Q 0 0 149 [] [] Γ σ9) : WP l G yX1_look cX1_look 7 (none) d 0 0 Q 0 0 143 [(0, .ref (G.2.1 x0)), (1, .int x1), (2, .int x2), (3, .int x3), (4, .int x4), (5, .int x5), (6, .int x6)] [] Γ σ := by
  unfold fX1_look_b143 at h
  refine q_iinc (v := 1) 6 (fun v1 => [(6, .int v1), (0, .ref (G.2.1 x0)), (1, .int x1), (2, .int x2), (3, .int x3), (4, .int x4), (5, .int x5)]) dX1_look_143 rfl (by decide) (by decide) (fun _ => rfl) h (fun v1 h => ?_)
  refine r_goto 56 dX1_look_146 (by decide) ?_
  obtain rfl := Option.some.inj h
  refine r_pick [1, 2, 3, 4, 5, 6, 0] rfl ?_
  exact hb _ _ _ _ rfl
theorem sX1_look_L56 {l : Launch} {G : gg} {Γ : ly} {d : Nat} {Q : Option Value → ly → mm → Prop} (hdd : 2 ≤ d) (x0 : Nat) (x1 : Int32) (x2 : Int32) (x3 : Int32) (t0 : tyOK Γ (0, 1) x0) {K : mm → Prop} (kx0 : ∀ (σ9 : mm), K σ9 → WP l G yX1_look cX1_look 7 (none) d 0 0 Q 0 0 149 [] [] Γ σ9) : ∀ (N : Nat) (s : (Int32 × Int32 × Int32 × mm)) (b : mm), loopN (fX1_look_L56 Γ.2 x0 x1 x2 x3) N s = some b → K b → WP l G yX1_look cX1_look 7 (none) d 0 0 Q 0 0 56 [(0, .ref (G.2.1 x0)), (1, .int x1), (2, .int x2), (3, .int x3), (4, .int s.1), (5, .int s.2.1), (6, .int s.2.2.1)] [] Γ s.2.2.2 := by
  refine r_loop (f := fX1_look_L56 Γ.2 x0 x1 x2 x3) (hlv := fun s => [(0, .ref (G.2.1 x0)), (1, .int x1), (2, .int x2), (3, .int x3), (4, .int s.1), (5, .int s.2.1), (6, .int s.2.2.1)]) (hsg := fun s => s.2.2.2) ?_
  rintro ⟨x4, x5, x6, σ⟩ r h hb hx
  have hb : ∀ (x4 : Int32) (x5 : Int32) (x6 : Int32) (σ : mm), r = .inl (x4, x5, x6, σ) → WP l G yX1_look cX1_look 7 (none) d 0 0 Q 0 0 56 [(0, .ref (G.2.1 x0)), (1, .int x1), (2, .int x2), (3, .int x3), (4, .int x4), (5, .int x5), (6, .int x6)] [] Γ σ := fun x4 x5 x6 σ e => hb (x4, x5, x6, σ) e
  have hx0 : ∀ (σ9 : mm), r = .inr σ9 → WP l G yX1_look cX1_look 7 (none) d 0 0 Q 0 0 149 [] [] Γ σ9 := fun σ9 e => kx0 σ9 (hx _ e)
  unfold fX1_look_L56 at h
  have h := un4_some h
  show WP l G yX1_look cX1_look 7 (none) d 0 0 Q 0 0 56 [(0, .ref (G.2.1 x0)), (1, .int x1), (2, .int x2), (3, .int x3), (4, .int x4), (5, .int x5), (6, .int x6)] [] Γ σ
  refine r_iload 6 dX1_look_56 rfl ?_
  refine r_sipush (v := 600) dX1_look_58 (by decide) ?_
  refine r_icmp_ge 149 dX1_look_61 (by decide) h (fun _ h => ?_) (fun _ h => ?_)
  · obtain rfl := Option.some.inj h
    refine r_pick [] rfl ?_
    exact hx0 _ rfl
  · refine r_aload_n 0 dX1_look_64 rfl ?_
    refine q_getR (e9 := (1, 0)) dX1_look_65 fd_X1_9 t0 rfl h (fun r1 tr1 h => ?_)
    refine r_iload 6 dX1_look_68 rfl ?_
    refine r_aload_n 0 dX1_look_70 rfl ?_
    refine q_getR (e9 := (0, 3)) dX1_look_71 fd_X1_22 t0 rfl h (fun r2 tr2 h => ?_)
    refine r_iload_n 1 dX1_look_74 rfl ?_
    refine r_iload 6 dX1_look_75 rfl ?_
    obtain ⟨v3, ev3, h⟩ := bd0_some h
    refine q_cVI [.int x1, .int x6] dX1_look_77 cv_X1_46 (ci := 3) rfl rfl tr2 rfl rfl (Nat.le_of_ble_eq_true rfl) (by omega) (kX3_runsAt (d - 1) (by omega) r2 x1 x6 tr2 v3 ev3) ?_
    refine q_iast dX1_look_80 tr1 h (fun τ4 h => ?_)
    refine r_aload_n 0 dX1_look_81 rfl ?_
    refine q_getR (e9 := (1, 0)) dX1_look_82 fd_X1_15 t0 rfl h (fun r5 tr5 h => ?_)
    refine r_iload 6 dX1_look_85 rfl ?_
    refine r_aload_n 0 dX1_look_87 rfl ?_
    refine r_iload_n 2 dX1_look_88 rfl ?_
    refine r_iload 4 dX1_look_89 rfl ?_
    refine r_iload 6 dX1_look_91 rfl ?_
    obtain ⟨v6, ev6, h⟩ := bd0_some h
    refine q_cVI [.int x2, .int x4, .int x6] dX1_look_93 cv_X1_50 (ci := 1) rfl rfl t0 rfl rfl (Nat.le_of_ble_eq_true rfl) (by omega) (kX1_mood (d - 1) (by omega) x0 x2 x4 x6 t0 v6 ev6) ?_
    refine r_aload_n 0 dX1_look_96 rfl ?_
    refine r_iload_n 3 dX1_look_97 rfl ?_
    refine r_iload 5 dX1_look_98 rfl ?_
    refine r_iload 6 dX1_look_100 rfl ?_
    obtain ⟨v7, ev7, h⟩ := bd0_some h
    refine q_cVI [.int x3, .int x5, .int x6] dX1_look_102 cv_X1_50 (ci := 1) rfl rfl t0 rfl rfl (Nat.le_of_ble_eq_true rfl) (by omega) (kX1_mood (d - 1) (by omega) x0 x3 x5 x6 t0 v7 ev7) ?_
    refine r_iconst (v := 1) dX1_look_105 (by decide) ?_
    refine r_ishl dX1_look_106 ?_
    refine r_ior dX1_look_107 ?_
    refine q_iast dX1_look_108 tr5 h (fun τ8 h => ?_)
    refine r_iload 6 dX1_look_109 rfl ?_
    refine r_bipush (v := 24) dX1_look_111 (by decide) ?_
    refine r_irem dX1_look_113 (by decide) ?_
    refine r_bipush (v := 23) dX1_look_114 (by decide) ?_
    refine r_icmp_ne 143 dX1_look_116 (by decide) h (fun _ h => ?_) (fun _ h => ?_)
    · exact tX1_look_b143 hdd τ8 x0 x1 x2 x3 x4 x5 x6 t0 _ h hb hx0
    · refine r_aload_n 0 dX1_look_119 rfl ?_
      refine q_getR (e9 := (0, 4)) dX1_look_120 fd_X1_18 t0 rfl h (fun r9 tr9 h => ?_)
      refine r_iload_n 2 dX1_look_123 rfl ?_
      refine r_iload 4 dX1_look_124 rfl ?_
      obtain ⟨v10, ev10, h⟩ := bd0_some h
      refine q_cVI [.int x2, .int x4] dX1_look_126 cv_X1_54 (ci := 4) rfl rfl tr9 rfl rfl (Nat.le_of_ble_eq_true rfl) (by omega) (kX4_fondNextDay (d - 1) (by omega) r9 x2 x4 tr9 v10 ev10) ?_
      refine r_istore (lv' := [(4, .int v10), (0, .ref (G.2.1 x0)), (1, .int x1), (2, .int x2), (3, .int x3), (5, .int x5), (6, .int x6)]) dX1_look_129 (by decide) rfl ?_
      refine r_aload_n 1 dX1_look_131 rfl ?_
      refine q_getR (e9 := (0, 4)) dX1_look_132 fd_X1_18 t0 rfl h (fun r11 tr11 h => ?_)
      refine r_iload_n 4 dX1_look_135 rfl ?_
      refine r_iload 5 dX1_look_136 rfl ?_
      obtain ⟨v12, ev12, h⟩ := bd0_some h
      refine q_cVI [.int x3, .int x5] dX1_look_138 cv_X1_54 (ci := 4) rfl rfl tr11 rfl rfl (Nat.le_of_ble_eq_true rfl) (by omega) (kX4_fondNextDay (d - 1) (by omega) r11 x3 x5 tr11 v12 ev12) ?_
      refine r_istore (lv' := [(5, .int v12), (4, .int v10), (0, .ref (G.2.1 x0)), (1, .int x1), (2, .int x2), (3, .int x3), (6, .int x6)]) dX1_look_141 (by decide) rfl ?_
      refine r_pick [2, 3, 4, 5, 1, 0, 6] rfl ?_
      exact tX1_look_b143 hdd τ8 x0 x1 x2 x3 v10 v12 x6 t0 _ h hb hx0
theorem kX1_look {l : Launch} {G : gg} {Γ : ly} {σ : mm} (d : Nat) (hdd : 2 ≤ d) (x0 : Nat) (x1 : Int32) (t0 : tyOK Γ (0, 1) x0) (r : mm) (h : fX1_look Γ.2 σ x0 x1 = some r) : CT l G yX1_look cX1_look 7 (none) d 0 0 [.ref (G.2.1 x0), .int x1] Γ σ (PP none Γ r) := by
  refine CT.ofWP (by decide) (Nat.le_of_ble_eq_true rfl) ?_
  have hQ : PP none Γ r none Γ r := PP.self
  generalize PP none Γ r = Q at hQ ⊢
  show WP l G yX1_look cX1_look 7 (none) d 0 0 Q 0 0 0 [(0, .ref (G.2.1 x0)), (1, .int x1)] [] Γ σ
  unfold fX1_look at h
  refine r_aload_n 0 dX1_look_0 rfl ?_
  refine r_iload_n 1 dX1_look_1 rfl ?_
  refine q_putI dX1_look_2 fd_X1_26 t0 h (fun τ1 h => ?_)
  refine r_aload_n 0 dX1_look_5 rfl ?_
  refine q_getR (e9 := (0, 4)) dX1_look_6 fd_X1_18 t0 rfl h (fun r2 tr2 h => ?_)
  refine q_getR (e9 := (1, 0)) dX1_look_9 fd_X1_30 tr2 rfl h (fun r3 tr3 h => ?_)
  refine r_iload_n 1 dX1_look_12 rfl ?_
  refine q_iald dX1_look_13 tr3 h (fun v4 h => ?_)
  refine r_istore_n (lv' := [(2, .int v4), (0, .ref (G.2.1 x0)), (1, .int x1)]) dX1_look_14 (by decide) rfl ?_
  refine r_aload_n 1 dX1_look_15 rfl ?_
  refine q_getR (e9 := (0, 4)) dX1_look_16 fd_X1_18 t0 rfl h (fun r5 tr5 h => ?_)
  refine q_getR (e9 := (1, 0)) dX1_look_19 fd_X1_35 tr5 rfl h (fun r6 tr6 h => ?_)
  refine r_iload_n 2 dX1_look_22 rfl ?_
  refine q_iald dX1_look_23 tr6 h (fun v7 h => ?_)
  refine r_istore_n (lv' := [(3, .int v7), (2, .int v4), (0, .ref (G.2.1 x0)), (1, .int x1)]) dX1_look_24 (by decide) rfl ?_
  refine r_aload_n 2 dX1_look_25 rfl ?_
  refine q_getR (e9 := (0, 3)) dX1_look_26 fd_X1_22 t0 rfl h (fun r8 tr8 h => ?_)
  refine q_getR (e9 := (1, 0)) dX1_look_29 fd_X1_38 tr8 rfl h (fun r9 tr9 h => ?_)
  refine r_iload_n 1 dX1_look_32 rfl ?_
  refine q_iald dX1_look_33 tr9 h (fun v10 h => ?_)
  refine r_istore (lv' := [(4, .int v10), (3, .int v7), (2, .int v4), (0, .ref (G.2.1 x0)), (1, .int x1)]) dX1_look_34 (by decide) rfl ?_
  refine r_aload_n 3 dX1_look_36 rfl ?_
  refine q_getR (e9 := (0, 3)) dX1_look_37 fd_X1_22 t0 rfl h (fun r11 tr11 h => ?_)
  refine q_getR (e9 := (1, 0)) dX1_look_40 fd_X1_38 tr11 rfl h (fun r12 tr12 h => ?_)
  refine r_iload_n 1 dX1_look_43 rfl ?_
  refine q_iald dX1_look_44 tr12 h (fun v13 h => ?_)
  refine r_istore (lv' := [(5, .int v13), (4, .int v10), (3, .int v7), (2, .int v4), (0, .ref (G.2.1 x0)), (1, .int x1)]) dX1_look_45 (by decide) rfl ?_
  refine r_aload_n 4 dX1_look_47 rfl ?_
  refine q_getR (e9 := (0, 3)) dX1_look_48 fd_X1_22 t0 rfl h (fun r14 tr14 h => ?_)
  refine r_getI dX1_look_51 fd_X1_43 tr14 ?_
  refine q_nmI h (fun v15 h => ?_)
  refine r_istore (lv' := [(6, .int v15), (5, .int v13), (4, .int v10), (3, .int v7), (2, .int v4), (0, .ref (G.2.1 x0)), (1, .int x1)]) dX1_look_54 (by decide) rfl ?_
  obtain ⟨b16, eb16, h⟩ := bd0_some h
  refine r_pick [5, 6, 4, 3, 2, 1, 0] rfl ?_
  refine sX1_look_L56 hdd x0 x1 v4 v7 t0 (K := fun b => b = b16) ?_ 1000 (v10, v13, v15, τ1) b16 eb16 rfl
  rintro τ17 rfl
  obtain rfl := Option.some.inj h
  exact r_return dX1_look_149 rfl hQ (Nat.le_refl _) (Nat.le_refl _)
theorem kX1_start {l : Launch} {G : gg} {Γ : ly} {σ : mm} (d : Nat) (hdd : 0 ≤ d) (x0 : Nat) (t0 : tyOK Γ (0, 1) x0) (r : Int32) (h : fX1_start Γ.2 σ x0 = some r) : CT l G yX1_start cX1_start 1 (some .int) d 0 0 [.ref (G.2.1 x0)] Γ σ (PP (some (.int r)) Γ σ) := by
  refine CT.ofWP (by decide) (Nat.le_of_ble_eq_true rfl) ?_
  have hQ : PP (some (.int r)) Γ σ (some (.int r)) Γ σ := PP.self
  generalize PP (some (.int r)) Γ σ = Q at hQ ⊢
  show WP l G yX1_start cX1_start 1 (some .int) d 0 0 Q 0 0 0 [(0, .ref (G.2.1 x0))] [] Γ σ
  unfold fX1_start at h
  refine r_aload_n 0 dX1_start_0 rfl ?_
  refine q_getR (e9 := (0, 3)) dX1_start_1 fd_X1_22 t0 rfl h (fun r1 tr1 h => ?_)
  refine r_getI dX1_start_4 fd_X1_43 tr1 ?_
  obtain rfl := Option.some.inj h
  exact r_ireturn dX1_start_7 rfl hQ (Nat.le_refl _) (Nat.le_refl _)
theorem kX1_grains {l : Launch} {G : gg} {Γ : ly} {σ : mm} (d : Nat) (hdd : 0 ≤ d) (x0 : Nat) (t0 : tyOK Γ (0, 1) x0) (r : Int32) (h : fX1_grains Γ.2 σ x0 = some r) : CT l G yX1_grains cX1_grains 1 (some .int) d 0 0 [.ref (G.2.1 x0)] Γ σ (PP (some (.int r)) Γ σ) := by
  refine CT.ofWP (by decide) (Nat.le_of_ble_eq_true rfl) ?_
  have hQ : PP (some (.int r)) Γ σ (some (.int r)) Γ σ := PP.self
  generalize PP (some (.int r)) Γ σ = Q at hQ ⊢
  show WP l G yX1_grains cX1_grains 1 (some .int) d 0 0 Q 0 0 0 [(0, .ref (G.2.1 x0))] [] Γ σ
  unfold fX1_grains at h
  refine r_aload_n 0 dX1_grains_0 rfl ?_
  refine q_getR (e9 := (0, 4)) dX1_grains_1 fd_X1_18 t0 rfl h (fun r1 tr1 h => ?_)
  refine q_getR (e9 := (1, 0)) dX1_grains_4 fd_X1_68 tr1 rfl h (fun r2 tr2 h => ?_)
  refine r_aload_n 0 dX1_grains_7 rfl ?_
  refine r_getI dX1_grains_8 fd_X1_26 t0 ?_
  refine q_iald dX1_grains_11 tr2 h (fun v3 h => ?_)
  obtain rfl := Option.some.inj h
  exact r_ireturn dX1_grains_12 rfl hQ (Nat.le_refl _) (Nat.le_refl _)
theorem kX1_grace {l : Launch} {G : gg} {Γ : ly} {σ : mm} (d : Nat) (hdd : 0 ≤ d) (x0 : Nat) (t0 : tyOK Γ (0, 1) x0) (r : Int32) (h : fX1_grace Γ.2 σ x0 = some r) : CT l G yX1_grace cX1_grace 1 (some .int) d 0 0 [.ref (G.2.1 x0)] Γ σ (PP (some (.int r)) Γ σ) := by
  refine CT.ofWP (by decide) (Nat.le_of_ble_eq_true rfl) ?_
  have hQ : PP (some (.int r)) Γ σ (some (.int r)) Γ σ := PP.self
  generalize PP (some (.int r)) Γ σ = Q at hQ ⊢
  show WP l G yX1_grace cX1_grace 1 (some .int) d 0 0 Q 0 0 0 [(0, .ref (G.2.1 x0))] [] Γ σ
  unfold fX1_grace at h
  refine r_aload_n 0 dX1_grace_0 rfl ?_
  refine q_getR (e9 := (0, 4)) dX1_grace_1 fd_X1_18 t0 rfl h (fun r1 tr1 h => ?_)
  refine r_getI dX1_grace_4 fd_X1_71 tr1 ?_
  obtain rfl := Option.some.inj h
  exact r_ireturn dX1_grace_7 rfl hQ (Nat.le_refl _) (Nat.le_refl _)
theorem kX1_waited {l : Launch} {G : gg} {Γ : ly} {σ : mm} (d : Nat) (hdd : 0 ≤ d) (x0 : Nat) (t0 : tyOK Γ (0, 1) x0) (r : Int32) (h : fX1_waited Γ.2 σ x0 = some r) : CT l G yX1_waited cX1_waited 1 (some .int) d 0 0 [.ref (G.2.1 x0)] Γ σ (PP (some (.int r)) Γ σ) := by
  refine CT.ofWP (by decide) (Nat.le_of_ble_eq_true rfl) ?_
  have hQ : PP (some (.int r)) Γ σ (some (.int r)) Γ σ := PP.self
  generalize PP (some (.int r)) Γ σ = Q at hQ ⊢
  show WP l G yX1_waited cX1_waited 1 (some .int) d 0 0 Q 0 0 0 [(0, .ref (G.2.1 x0))] [] Γ σ
  unfold fX1_waited at h
  refine r_aload_n 0 dX1_waited_0 rfl ?_
  refine q_getR (e9 := (0, 3)) dX1_waited_1 fd_X1_22 t0 rfl h (fun r1 tr1 h => ?_)
  refine q_getR (e9 := (1, 0)) dX1_waited_4 fd_X1_74 tr1 rfl h (fun r2 tr2 h => ?_)
  refine r_aload_n 0 dX1_waited_7 rfl ?_
  refine r_getI dX1_waited_8 fd_X1_26 t0 ?_
  refine q_iald dX1_waited_11 tr2 h (fun v3 h => ?_)
  obtain rfl := Option.some.inj h
  exact r_ireturn dX1_waited_12 rfl hQ (Nat.le_refl _) (Nat.le_refl _)
theorem tX1_has_b27 {l : Launch} {G : gg} {Γ : ly} {d : Nat} {Q : Option Value → ly → mm → Prop} (hdd : 0 ≤ d) (σ : mm)  (s0 : Int32)   (r : Int32) (h : fX1_has_b27 Γ.2 σ s0 = some r) (hQ : Q (some (.int r)) Γ σ) : WP l G yX1_has cX1_has 3 (some .boolean) d 0 0 Q 0 0 27 [] [.int s0] Γ σ := by
  unfold fX1_has_b27 at h
  obtain ⟨hbz, h⟩ := rZ_some h
  obtain rfl := Option.some.inj h
  exact r_zreturn dX1_has_27 rfl hbz hQ (Nat.le_refl _) (Nat.le_refl _)
theorem tX1_has_b26 {l : Launch} {G : gg} {Γ : ly} {d : Nat} {Q : Option Value → ly → mm → Prop} (hdd : 0 ≤ d) (σ : mm)     (r : Int32) (h : fX1_has_b26 Γ.2 σ  = some r) (hQ : Q (some (.int r)) Γ σ) : WP l G yX1_has cX1_has 3 (some .boolean) d 0 0 Q 0 0 26 [] [] Γ σ := by
  unfold fX1_has_b26 at h
  refine r_iconst (v := 0) dX1_has_26 (by decide) ?_
  exact tX1_has_b27 hdd σ (0 : Int32)  _ h hQ
theorem kX1_has {l : Launch} {G : gg} {Γ : ly} {σ : mm} (d : Nat) (hdd : 0 ≤ d) (x0 : Nat) (x1 : Int32) (x2 : Int32) (t0 : tyOK Γ (0, 1) x0) (r : Int32) (h : fX1_has Γ.2 σ x0 x1 x2 = some r) : CT l G yX1_has cX1_has 3 (some .boolean) d 0 0 [.ref (G.2.1 x0), .int x1, .int x2] Γ σ (PP (some (.int r)) Γ σ) := by
  refine CT.ofWP (by decide) (Nat.le_of_ble_eq_true rfl) ?_
  have hQ : PP (some (.int r)) Γ σ (some (.int r)) Γ σ := PP.self
  generalize PP (some (.int r)) Γ σ = Q at hQ ⊢
  show WP l G yX1_has cX1_has 3 (some .boolean) d 0 0 Q 0 0 0 [(0, .ref (G.2.1 x0)), (1, .int x1), (2, .int x2)] [] Γ σ
  unfold fX1_has at h
  refine r_iload_n 1 dX1_has_0 rfl ?_
  refine r_if_lt 26 dX1_has_1 (by decide) h (fun _ h => ?_) (fun _ h => ?_)
  · refine r_pick [] rfl ?_
    exact tX1_has_b26 hdd σ  _ h hQ
  · refine r_iload_n 1 dX1_has_4 rfl ?_
    refine r_sipush (v := 600) dX1_has_5 (by decide) ?_
    refine r_icmp_ge 26 dX1_has_8 (by decide) h (fun _ h => ?_) (fun _ h => ?_)
    · refine r_pick [] rfl ?_
      exact tX1_has_b26 hdd σ  _ h hQ
    · refine r_aload_n 0 dX1_has_11 rfl ?_
      refine q_getR (e9 := (1, 0)) dX1_has_12 fd_X1_15 t0 rfl h (fun r1 tr1 h => ?_)
      refine r_iload_n 1 dX1_has_15 rfl ?_
      refine q_iald dX1_has_16 tr1 h (fun v2 h => ?_)
      refine r_iload_n 2 dX1_has_17 rfl ?_
      refine r_iand dX1_has_18 ?_
      refine r_if_eq 26 dX1_has_19 (by decide) h (fun _ h => ?_) (fun _ h => ?_)
      · refine r_pick [] rfl ?_
        exact tX1_has_b26 hdd σ  _ h hQ
      · refine r_iconst (v := 1) dX1_has_22 (by decide) ?_
        refine r_goto 27 dX1_has_23 (by decide) ?_
        refine r_pick [] rfl ?_
        exact tX1_has_b27 hdd σ (1 : Int32)  _ h hQ
theorem kX1_isSomeoneWilling {l : Launch} {G : gg} {Γ : ly} {σ : mm} (d : Nat) (hdd : 1 ≤ d) (x0 : Nat) (x1 : Int32) (t0 : tyOK Γ (0, 1) x0) (r : Int32) (h : fX1_isSomeoneWilling Γ.2 σ x0 x1 = some r) : CT l G yX1_isSomeoneWilling cX1_isSomeoneWilling 2 (some .boolean) d 0 0 [.ref (G.2.1 x0), .int x1] Γ σ (PP (some (.int r)) Γ σ) := by
  refine CT.ofWP (by decide) (Nat.le_of_ble_eq_true rfl) ?_
  have hQ : PP (some (.int r)) Γ σ (some (.int r)) Γ σ := PP.self
  generalize PP (some (.int r)) Γ σ = Q at hQ ⊢
  show WP l G yX1_isSomeoneWilling cX1_isSomeoneWilling 2 (some .boolean) d 0 0 Q 0 0 0 [(0, .ref (G.2.1 x0)), (1, .int x1)] [] Γ σ
  unfold fX1_isSomeoneWilling at h
  refine r_aload_n 0 dX1_isSomeoneWilling_0 rfl ?_
  refine r_iload_n 1 dX1_isSomeoneWilling_1 rfl ?_
  refine r_iconst (v := 3) dX1_isSomeoneWilling_2 (by decide) ?_
  obtain ⟨v1, ev1, h⟩ := bd0_some h
  refine q_cVI [.int x1, .int (3 : Int32)] dX1_isSomeoneWilling_3 cv_X1_77 (ci := 1) rfl rfl t0 rfl rfl (Nat.le_of_ble_eq_true rfl) (by omega) (kX1_has (d - 1) (by omega) x0 x1 (3 : Int32) t0 v1 ev1) ?_
  obtain ⟨hbz, h⟩ := rZ_some h
  obtain rfl := Option.some.inj h
  exact r_zreturn dX1_isSomeoneWilling_6 rfl hbz hQ (Nat.le_refl _) (Nat.le_refl _)
theorem tX1_areBothWilling_b23 {l : Launch} {G : gg} {Γ : ly} {d : Nat} {Q : Option Value → ly → mm → Prop} (hdd : 1 ≤ d) (σ : mm)  (s0 : Int32)   (r : Int32) (h : fX1_areBothWilling_b23 Γ.2 σ s0 = some r) (hQ : Q (some (.int r)) Γ σ) : WP l G yX1_areBothWilling cX1_areBothWilling 2 (some .boolean) d 0 0 Q 0 0 23 [] [.int s0] Γ σ := by
  unfold fX1_areBothWilling_b23 at h
  obtain ⟨hbz, h⟩ := rZ_some h
  obtain rfl := Option.some.inj h
  exact r_zreturn dX1_areBothWilling_23 rfl hbz hQ (Nat.le_refl _) (Nat.le_refl _)
theorem tX1_areBothWilling_b22 {l : Launch} {G : gg} {Γ : ly} {d : Nat} {Q : Option Value → ly → mm → Prop} (hdd : 1 ≤ d) (σ : mm)     (r : Int32) (h : fX1_areBothWilling_b22 Γ.2 σ  = some r) (hQ : Q (some (.int r)) Γ σ) : WP l G yX1_areBothWilling cX1_areBothWilling 2 (some .boolean) d 0 0 Q 0 0 22 [] [] Γ σ := by
  unfold fX1_areBothWilling_b22 at h
  refine r_iconst (v := 0) dX1_areBothWilling_22 (by decide) ?_
  exact tX1_areBothWilling_b23 hdd σ (0 : Int32)  _ h hQ
theorem kX1_areBothWilling {l : Launch} {G : gg} {Γ : ly} {σ : mm} (d : Nat) (hdd : 1 ≤ d) (x0 : Nat) (x1 : Int32) (t0 : tyOK Γ (0, 1) x0) (r : Int32) (h : fX1_areBothWilling Γ.2 σ x0 x1 = some r) : CT l G yX1_areBothWilling cX1_areBothWilling 2 (some .boolean) d 0 0 [.ref (G.2.1 x0), .int x1] Γ σ (PP (some (.int r)) Γ σ) := by
  refine CT.ofWP (by decide) (Nat.le_of_ble_eq_true rfl) ?_
  have hQ : PP (some (.int r)) Γ σ (some (.int r)) Γ σ := PP.self
  generalize PP (some (.int r)) Γ σ = Q at hQ ⊢
  show WP l G yX1_areBothWilling cX1_areBothWilling 2 (some .boolean) d 0 0 Q 0 0 0 [(0, .ref (G.2.1 x0)), (1, .int x1)] [] Γ σ
  unfold fX1_areBothWilling at h
  refine r_aload_n 0 dX1_areBothWilling_0 rfl ?_
  refine r_iload_n 1 dX1_areBothWilling_1 rfl ?_
  refine r_iconst (v := 1) dX1_areBothWilling_2 (by decide) ?_
  obtain ⟨v1, ev1, h⟩ := bd0_some h
  refine q_cVI [.int x1, .int (1 : Int32)] dX1_areBothWilling_3 cv_X1_77 (ci := 1) rfl rfl t0 rfl rfl (Nat.le_of_ble_eq_true rfl) (by omega) (kX1_has (d - 1) (by omega) x0 x1 (1 : Int32) t0 v1 ev1) ?_
  refine r_if_eq 22 dX1_areBothWilling_6 (by decide) h (fun _ h => ?_) (fun _ h => ?_)
  · refine r_pick [] rfl ?_
    exact tX1_areBothWilling_b22 hdd σ  _ h hQ
  · refine r_aload_n 0 dX1_areBothWilling_9 rfl ?_
    refine r_iload_n 1 dX1_areBothWilling_10 rfl ?_
    refine r_iconst (v := 2) dX1_areBothWilling_11 (by decide) ?_
    obtain ⟨v2, ev2, h⟩ := bd0_some h
    refine q_cVI [.int x1, .int (2 : Int32)] dX1_areBothWilling_12 cv_X1_77 (ci := 1) rfl rfl t0 rfl rfl (Nat.le_of_ble_eq_true rfl) (by omega) (kX1_has (d - 1) (by omega) x0 x1 (2 : Int32) t0 v2 ev2) ?_
    refine r_if_eq 22 dX1_areBothWilling_15 (by decide) h (fun _ h => ?_) (fun _ h => ?_)
    · refine r_pick [] rfl ?_
      exact tX1_areBothWilling_b22 hdd σ  _ h hQ
    · refine r_iconst (v := 1) dX1_areBothWilling_18 (by decide) ?_
      refine r_goto 23 dX1_areBothWilling_19 (by decide) ?_
      refine r_pick [] rfl ?_
      exact tX1_areBothWilling_b23 hdd σ (1 : Int32)  _ h hQ
theorem sX1_endFrom_L9 {l : Launch} {G : gg} {Γ : ly} {d : Nat} {Q : Option Value → ly → mm → Prop} (hdd : 1 ≤ d) (σ : mm) (x0 : Nat) (t0 : tyOK Γ (0, 1) x0) {K : (Int32 ⊕ Unit) → Prop} (kx0 : ∀ (x4 : Int32), K (.inl x4) → WP l G yX1_endFrom cX1_endFrom 5 (some .int) d 0 0 Q 0 0 21 [(4, .int x4)] [] Γ σ) (kx1 : K (.inr ()) → WP l G yX1_endFrom cX1_endFrom 5 (some .int) d 0 0 Q 0 0 40 [] [] Γ σ) : ∀ (N : Nat) (s : (Int32 × Int32)) (b : (Int32 ⊕ Unit)), loopN (fX1_endFrom_L9 Γ.2 σ x0) N s = some b → K b → WP l G yX1_endFrom cX1_endFrom 5 (some .int) d 0 0 Q 0 0 9 [(0, .ref (G.2.1 x0)), (3, .int s.1), (4, .int s.2)] [] Γ σ := by
  refine r_loop (f := fX1_endFrom_L9 Γ.2 σ x0) (hlv := fun s => [(0, .ref (G.2.1 x0)), (3, .int s.1), (4, .int s.2)]) (hsg := fun s => σ) ?_
  rintro ⟨x3, x4⟩ r h hb hx
  have hb : ∀ (x3 : Int32) (x4 : Int32), r = .inl (x3, x4) → WP l G yX1_endFrom cX1_endFrom 5 (some .int) d 0 0 Q 0 0 9 [(0, .ref (G.2.1 x0)), (3, .int x3), (4, .int x4)] [] Γ σ := fun x3 x4 e => hb (x3, x4) e
  have hx0 : ∀ (x4 : Int32), r = .inr (.inl x4) → WP l G yX1_endFrom cX1_endFrom 5 (some .int) d 0 0 Q 0 0 21 [(4, .int x4)] [] Γ σ := fun x4 e => kx0 x4 (hx _ e)
  have hx1 : r = .inr (.inr ()) → WP l G yX1_endFrom cX1_endFrom 5 (some .int) d 0 0 Q 0 0 40 [] [] Γ σ := fun e => kx1  (hx _ e)
  unfold fX1_endFrom_L9 at h
  have h := un2_some h
  show WP l G yX1_endFrom cX1_endFrom 5 (some .int) d 0 0 Q 0 0 9 [(0, .ref (G.2.1 x0)), (3, .int x3), (4, .int x4)] [] Γ σ
  refine r_iload 2 dX1_endFrom_9 rfl ?_
  refine r_sipush (v := 600) dX1_endFrom_11 (by decide) ?_
  refine r_icmp_ge 40 dX1_endFrom_14 (by decide) h (fun _ h => ?_) (fun _ h => ?_)
  · obtain rfl := Option.some.inj h
    refine r_pick [] rfl ?_
    exact hx1  rfl
  · refine r_iload_n 1 dX1_endFrom_17 rfl ?_
    refine r_if_gt 24 dX1_endFrom_18 (by decide) h (fun _ h => ?_) (fun _ h => ?_)
    · refine r_iload_n 1 dX1_endFrom_24 rfl ?_
      refine r_aload_n 0 dX1_endFrom_25 rfl ?_
      refine q_getR (e9 := (1, 0)) dX1_endFrom_26 fd_X1_9 t0 rfl h (fun r1 tr1 h => ?_)
      refine r_iload 2 dX1_endFrom_29 rfl ?_
      refine q_iald dX1_endFrom_31 tr1 h (fun v2 h => ?_)
      refine r_isub dX1_endFrom_32 ?_
      refine q_nmI h (fun v3 h => ?_)
      refine r_istore_n (lv' := [(3, .int v3), (0, .ref (G.2.1 x0)), (4, .int x4)]) dX1_endFrom_33 (by decide) rfl ?_
      refine q_iinc (v := 1) 2 (fun v4 => [(4, .int v4), (3, .int v3), (0, .ref (G.2.1 x0))]) dX1_endFrom_34 rfl (by decide) (by decide) (fun _ => rfl) h (fun v4 h => ?_)
      refine r_goto 9 dX1_endFrom_37 (by decide) ?_
      obtain rfl := Option.some.inj h
      refine r_pick [2, 1, 0] rfl ?_
      exact hb _ _ rfl
    · obtain rfl := Option.some.inj h
      refine r_pick [2] rfl ?_
      exact hx0 _ rfl
theorem kX1_endFrom {l : Launch} {G : gg} {Γ : ly} {σ : mm} (d : Nat) (hdd : 1 ≤ d) (x0 : Nat) (x1 : Int32) (x2 : Int32) (t0 : tyOK Γ (0, 1) x0) (r : Int32) (h : fX1_endFrom Γ.2 σ x0 x1 x2 = some r) : CT l G yX1_endFrom cX1_endFrom 5 (some .int) d 0 0 [.ref (G.2.1 x0), .int x1, .int x2] Γ σ (PP (some (.int r)) Γ σ) := by
  refine CT.ofWP (by decide) (Nat.le_of_ble_eq_true rfl) ?_
  have hQ : PP (some (.int r)) Γ σ (some (.int r)) Γ σ := PP.self
  generalize PP (some (.int r)) Γ σ = Q at hQ ⊢
  show WP l G yX1_endFrom cX1_endFrom 5 (some .int) d 0 0 Q 0 0 0 [(0, .ref (G.2.1 x0)), (1, .int x1), (2, .int x2)] [] Γ σ
  unfold fX1_endFrom at h
  refine r_iload_n 2 dX1_endFrom_0 rfl ?_
  refine r_istore_n (lv' := [(3, .int x2), (0, .ref (G.2.1 x0)), (1, .int x1), (2, .int x2)]) dX1_endFrom_1 (by decide) rfl ?_
  refine r_iconst (v := 0) dX1_endFrom_2 (by decide) ?_
  refine r_iload_n 2 dX1_endFrom_3 rfl ?_
  refine r_max dX1_endFrom_4 mx_X1_86 (Nat.le_of_ble_eq_true rfl) (by omega) (Nat.le_refl _) (Nat.le_refl _) ?_
  refine q_nmI h (fun v1 h => ?_)
  refine r_istore (lv' := [(4, .int v1), (3, .int x2), (0, .ref (G.2.1 x0)), (1, .int x1), (2, .int x2)]) dX1_endFrom_7 (by decide) rfl ?_
  obtain ⟨b2, eb2, h⟩ := bd0_some h
  refine r_pick [2, 1, 0] rfl ?_
  refine sX1_endFrom_L9 hdd σ x0 t0 (K := fun b => b = b2) ?_ ?_ 1000 (x2, v1) b2 eb2 rfl
  · rintro v3 rfl
    have h := cs2_0 h
    refine r_iload 0 dX1_endFrom_21 rfl ?_
    obtain rfl := Option.some.inj h
    exact r_ireturn dX1_endFrom_23 rfl hQ (Nat.le_refl _) (Nat.le_refl _)
  · rintro rfl
    have h := cs2_1 h
    refine r_sipush (v := 600) dX1_endFrom_40 (by decide) ?_
    obtain rfl := Option.some.inj h
    exact r_ireturn dX1_endFrom_43 rfl hQ (Nat.le_refl _) (Nat.le_refl _)
theorem kX1_endNow {l : Launch} {G : gg} {Γ : ly} {σ : mm} (d : Nat) (hdd : 2 ≤ d) (x0 : Nat) (t0 : tyOK Γ (0, 1) x0) (r : Int32) (h : fX1_endNow Γ.2 σ x0 = some r) : CT l G yX1_endNow cX1_endNow 1 (some .int) d 0 0 [.ref (G.2.1 x0)] Γ σ (PP (some (.int r)) Γ σ) := by
  refine CT.ofWP (by decide) (Nat.le_of_ble_eq_true rfl) ?_
  have hQ : PP (some (.int r)) Γ σ (some (.int r)) Γ σ := PP.self
  generalize PP (some (.int r)) Γ σ = Q at hQ ⊢
  show WP l G yX1_endNow cX1_endNow 1 (some .int) d 0 0 Q 0 0 0 [(0, .ref (G.2.1 x0))] [] Γ σ
  unfold fX1_endNow at h
  refine r_aload_n 0 dX1_endNow_0 rfl ?_
  refine r_aload_n 0 dX1_endNow_1 rfl ?_
  refine q_getR (e9 := (0, 3)) dX1_endNow_2 fd_X1_22 t0 rfl h (fun r1 tr1 h => ?_)
  refine r_getI dX1_endNow_5 fd_X1_43 tr1 ?_
  refine r_aload_n 0 dX1_endNow_8 rfl ?_
  refine q_getR (e9 := (0, 3)) dX1_endNow_9 fd_X1_22 t0 rfl h (fun r2 tr2 h => ?_)
  refine q_getR (e9 := (1, 0)) dX1_endNow_12 fd_X1_80 tr2 rfl h (fun r3 tr3 h => ?_)
  refine r_aload_n 0 dX1_endNow_15 rfl ?_
  refine r_getI dX1_endNow_16 fd_X1_26 t0 ?_
  refine q_iald dX1_endNow_19 tr3 h (fun v4 h => ?_)
  obtain ⟨v5, ev5, h⟩ := bd0_some h
  refine q_cVI [.int (σ.1 r1 1), .int v4] dX1_endNow_20 cv_X1_83 (ci := 1) rfl rfl t0 rfl rfl (Nat.le_of_ble_eq_true rfl) (by omega) (kX1_endFrom (d - 1) (by omega) x0 (σ.1 r1 1) v4 t0 v5 ev5) ?_
  obtain rfl := Option.some.inj h
  exact r_ireturn dX1_endNow_23 rfl hQ (Nat.le_refl _) (Nat.le_refl _)
