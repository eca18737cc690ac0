/-! the walks, 10 -/
theorem tX12_parish_b63 {l : Launch} {G : gg} {Γ : ly} {d : Nat} {Q : Option Value → ly → mm → Prop} (hdd : 7 ≤ d) (σ : mm) (x1 : Int32)    (r : (Int32 × mm)) (h : fX12_parish_b63 Γ.2 σ x1 = some r) (hQ : Q (some (.int r.1)) Γ r.2) : WP l G yX12_parish cX12_parish 2 (some .int) d 0 0 Q 0 0 63 [(1, .int x1)] [] Γ σ := by
  unfold fX12_parish_b63 at h
  refine r_iload_n 0 dX12_parish_63 rfl ?_
  obtain rfl := Option.some.inj h
  exact r_ireturn dX12_parish_64 rfl hQ (Nat.le_refl _) (Nat.le_refl _)
theorem kX12_parish {l : Launch} {G : gg} {Γ : ly} {σ : mm} (d : Nat) (hdd : 7 ≤ d) (x0 : Nat) (t0 : tyOK Γ (0, 11) x0) (r : (Int32 × mm)) (h : fX12_parish Γ.2 σ x0 = some r) : CT l G yX12_parish cX12_parish 2 (some .int) d 0 0 [.ref (G.2.1 x0)] Γ σ (PP (some (.int r.1)) Γ r.2) := by
  refine CT.ofWP (by decide) (Nat.le_of_ble_eq_true rfl) ?_
  have hQ : PP (some (.int r.1)) Γ r.2 (some (.int r.1)) Γ r.2 := PP.self
  generalize PP (some (.int r.1)) Γ r.2 = Q at hQ ⊢
  show WP l G yX12_parish cX12_parish 2 (some .int) d 0 0 Q 0 0 0 [(0, .ref (G.2.1 x0))] [] Γ σ
  unfold fX12_parish at h
  refine r_aload_n 0 dX12_parish_0 rfl ?_
  refine q_getR (e9 := (0, 5)) dX12_parish_1 fd_X12_31 t0 rfl h (fun r1 tr1 h => ?_)
  obtain ⟨v2, τ3, ev2, h⟩ := bd2_some h
  refine q_cVI [] dX12_parish_4 cv_X12_124 (ci := 5) rfl rfl tr1 rfl rfl (Nat.le_of_ble_eq_true rfl) (by omega) (kX5_read (d - 1) (by omega) r1 tr1 (v2, τ3) ev2) ?_
  refine r_istore_n (lv' := [(1, .int v2), (0, .ref (G.2.1 x0))]) dX12_parish_7 (by decide) rfl ?_
  refine r_aload_n 1 dX12_parish_8 rfl ?_
  refine r_aload_n 1 dX12_parish_9 rfl ?_
  refine q_getR (e9 := (0, 8)) dX12_parish_10 fd_X12_10 t0 rfl h (fun r4 tr4 h => ?_)
  refine r_getI dX12_parish_13 fd_X12_128 tr4 ?_
  refine q_putI dX12_parish_16 fd_X12_131 t0 h (fun τ5 h => ?_)
  refine r_aload_n 1 dX12_parish_19 rfl ?_
  refine q_getR (e9 := (0, 8)) dX12_parish_20 fd_X12_10 t0 rfl h (fun r6 tr6 h => ?_)
  refine r_iconst (v := 0) dX12_parish_23 (by decide) ?_
  refine q_putI dX12_parish_24 fd_X12_120 tr6 h (fun τ7 h => ?_)
  refine r_iload_n 0 dX12_parish_27 rfl ?_
  refine r_if_lt 63 dX12_parish_28 (by decide) h (fun _ h => ?_) (fun _ h => ?_)
  · refine r_pick [0] rfl ?_
    exact tX12_parish_b63 hdd τ7 v2  _ h hQ
  · refine r_aload_n 1 dX12_parish_31 rfl ?_
    refine q_getR (e9 := (0, 4)) dX12_parish_32 fd_X12_19 t0 rfl h (fun r8 tr8 h => ?_)
    refine r_aload_n 1 dX12_parish_35 rfl ?_
    refine q_getR (e9 := (0, 4)) dX12_parish_36 fd_X12_23 t0 rfl h (fun r9 tr9 h => ?_)
    obtain ⟨τ10, eτ10, h⟩ := bd0_some h
    refine q_cVV [.ref (G.2.1 r9)] dX12_parish_39 cv_X12_134 (ci := 4) rfl rfl tr8 rfl rfl (Nat.le_of_ble_eq_true rfl) (by omega) (kX4_copyFrom (d - 1) (by omega) r8 r9 tr8 tr9 τ10 eτ10) ?_
    refine r_aload_n 1 dX12_parish_42 rfl ?_
    refine q_getR (e9 := (0, 3)) dX12_parish_43 fd_X12_40 t0 rfl h (fun r11 tr11 h => ?_)
    obtain ⟨τ12, eτ12, h⟩ := bd0_some h
    refine q_cVV [] dX12_parish_46 cv_X12_137 (ci := 3) rfl rfl tr11 rfl rfl (Nat.le_of_ble_eq_true rfl) (by omega) (kX3_begin (d - 1) (by omega) r11 tr11 τ12 eτ12) ?_
    refine r_aload_n 1 dX12_parish_49 rfl ?_
    refine q_getR (e9 := (0, 7)) dX12_parish_50 fd_X12_82 t0 rfl h (fun r13 tr13 h => ?_)
    obtain ⟨τ14, eτ14, h⟩ := bd0_some h
    refine q_cVV [] dX12_parish_53 cv_X12_140 (ci := 7) rfl rfl tr13 rfl rfl (Nat.le_of_ble_eq_true rfl) (by omega) (kX7_forget (d - 1) (by omega) r13 tr13 τ14 eτ14) ?_
    refine r_aload_n 1 dX12_parish_56 rfl ?_
    refine q_getR (e9 := (0, 9)) dX12_parish_57 fd_X12_50 t0 rfl h (fun r15 tr15 h => ?_)
    obtain ⟨τ16, eτ16, h⟩ := bd0_some h
    refine q_cVV [] dX12_parish_60 cv_X12_143 (ci := 9) rfl rfl tr15 rfl rfl (Nat.le_of_ble_eq_true rfl) (by omega) (kX9_forget (d - 1) (by omega) r15 tr15 τ16 eτ16) ?_
    refine r_pick [0] rfl ?_
    exact tX12_parish_b63 hdd τ16 v2  _ h hQ
theorem kX12_fault {l : Launch} {G : gg} {Γ : ly} {σ : mm} (d : Nat) (hdd : 0 ≤ d) (x0 : Nat) (t0 : tyOK Γ (0, 11) x0) (r : Int32) (h : fX12_fault Γ.2 σ x0 = some r) : CT l G yX12_fault cX12_fault 1 (some .int) d 0 0 [.ref (G.2.1 x0)] Γ σ (PP (some (.int r)) Γ σ) := by
  refine CT.ofWP (by decide) (Nat.le_of_ble_eq_true rfl) ?_
  have hQ : PP (some (.int r)) Γ σ (some (.int r)) Γ σ := PP.self
  generalize PP (some (.int r)) Γ σ = Q at hQ ⊢
  show WP l G yX12_fault cX12_fault 1 (some .int) d 0 0 Q 0 0 0 [(0, .ref (G.2.1 x0))] [] Γ σ
  unfold fX12_fault at h
  refine r_aload_n 0 dX12_fault_0 rfl ?_
  refine r_getI dX12_fault_1 fd_X12_131 t0 ?_
  obtain rfl := Option.some.inj h
  exact r_ireturn dX12_fault_4 rfl hQ (Nat.le_refl _) (Nat.le_refl _)
theorem tX12_asNumber_b9 {l : Launch} {G : gg} {Γ : ly} {d : Nat} {Q : Option Value → ly → mm → Prop} (hdd : 0 ≤ d) (σ : mm)  (s0 : Int32)   (r : Int32) (h : fX12_asNumber_b9 Γ.2 σ s0 = some r) (hQ : Q (some (.int r)) Γ σ) : WP l G yX12_asNumber cX12_asNumber 1 (some .int) d 0 0 Q 0 0 9 [] [.int s0] Γ σ := by
  unfold fX12_asNumber_b9 at h
  obtain rfl := Option.some.inj h
  exact r_ireturn dX12_asNumber_9 rfl hQ (Nat.le_refl _) (Nat.le_refl _)
theorem kX12_asNumber {l : Launch} {G : gg} {Γ : ly} {σ : mm} (d : Nat) (hdd : 0 ≤ d) (x0 : Int32)  (r : Int32) (h : fX12_asNumber Γ.2 σ x0 = some r) : CT l G yX12_asNumber cX12_asNumber 1 (some .int) d 0 0 [.int x0] Γ σ (PP (some (.int r)) Γ σ) := by
  refine CT.ofWP (by decide) (Nat.le_of_ble_eq_true rfl) ?_
  have hQ : PP (some (.int r)) Γ σ (some (.int r)) Γ σ := PP.self
  generalize PP (some (.int r)) Γ σ = Q at hQ ⊢
  show WP l G yX12_asNumber cX12_asNumber 1 (some .int) d 0 0 Q 0 0 0 [(0, .int x0)] [] Γ σ
  unfold fX12_asNumber at h
  refine r_iload_n 0 dX12_asNumber_0 rfl ?_
  refine r_if_eq 8 dX12_asNumber_1 (by decide) h (fun _ h => ?_) (fun _ h => ?_)
  · refine r_iconst (v := 0) dX12_asNumber_8 (by decide) ?_
    refine r_pick [] rfl ?_
    exact tX12_asNumber_b9 hdd σ (0 : Int32)  _ h hQ
  · refine r_iconst (v := 1) dX12_asNumber_4 (by decide) ?_
    refine r_goto 9 dX12_asNumber_5 (by decide) ?_
    refine r_pick [] rfl ?_
    exact tX12_asNumber_b9 hdd σ (1 : Int32)  _ h hQ
theorem kX12_person {l : Launch} {G : gg} {Γ : ly} {σ : mm} (d : Nat) (hdd : 3 ≤ d) (x0 : Nat) (x1 : Int32) (x2 : Int32) (t0 : tyOK Γ (0, 11) x0) (r : Int32) (h : fX12_person Γ.2 σ x0 x1 x2 = some r) : CT l G yX12_person cX12_person 3 (some .int) d 0 0 [.ref (G.2.1 x0), .int x1, .int x2] Γ σ (PP (some (.int r)) Γ σ) := by
  refine CT.ofWP (by decide) (Nat.le_of_ble_eq_true rfl) ?_
  have hQ : PP (some (.int r)) Γ σ (some (.int r)) Γ σ := PP.self
  generalize PP (some (.int r)) Γ σ = Q at hQ ⊢
  show WP l G yX12_person cX12_person 3 (some .int) d 0 0 Q 0 0 0 [(0, .ref (G.2.1 x0)), (1, .int x1), (2, .int x2)] [] Γ σ
  unfold fX12_person at h
  refine r_aload_n 0 dX12_person_0 rfl ?_
  refine q_getR (e9 := (0, 4)) dX12_person_1 fd_X12_19 t0 rfl h (fun r1 tr1 h => ?_)
  refine r_iload_n 1 dX12_person_4 rfl ?_
  obtain ⟨v2, ev2, h⟩ := bd0_some h
  refine q_cVI [.int x1] dX12_person_5 cv_X12_144 (ci := 4) rfl rfl tr1 rfl rfl (Nat.le_of_ble_eq_true rfl) (by omega) (kX4_hasPerson (d - 1) (by omega) r1 x1 tr1 v2 ev2) ?_
  refine r_if_ne 21 dX12_person_8 (by decide) h (fun _ h => ?_) (fun _ h => ?_)
  · refine r_iload_n 2 dX12_person_21 rfl ?_
    rcases if_split h with ⟨q9, h⟩ | ⟨n0, h⟩
    · refine r_table (0 : Int32) 38 60 dX12_person_22 q9 (by decide) (by decide) rfl (by decide) ?_
      refine r_aload_n 0 dX12_person_60 rfl ?_
      refine q_getR (e9 := (0, 3)) dX12_person_61 fd_X12_40 t0 rfl h (fun r3 tr3 h => ?_)
      refine r_iload_n 1 dX12_person_64 rfl ?_
      obtain ⟨v4, ev4, h⟩ := bd0_some h
      refine q_cVI [.int x1] dX12_person_65 cv_X12_155 (ci := 3) rfl rfl tr3 rfl rfl (Nat.le_of_ble_eq_true rfl) (by omega) (kX3_isAwake (d - 1) (by omega) r3 x1 tr3 v4 ev4) ?_
      obtain ⟨v5, ev5, h⟩ := bd0_some h
      refine q_cSI [.int v4] dX12_person_68 cs_X12_158 rfl rfl (Nat.le_of_ble_eq_true rfl) (by omega) (kX12_asNumber (d - 1) (by omega) v4  v5 ev5) ?_
      obtain rfl := Option.some.inj h
      exact r_ireturn dX12_person_71 rfl hQ (Nat.le_refl _) (Nat.le_refl _)
    rcases if_split h with ⟨q9, h⟩ | ⟨n1, h⟩
    · refine r_table (1 : Int32) 50 72 dX12_person_22 q9 (by decide) (by decide) rfl (by decide) ?_
      refine r_aload_n 0 dX12_person_72 rfl ?_
      refine q_getR (e9 := (0, 3)) dX12_person_73 fd_X12_40 t0 rfl h (fun r6 tr6 h => ?_)
      refine q_getR (e9 := (1, 0)) dX12_person_76 fd_X12_162 tr6 rfl h (fun r7 tr7 h => ?_)
      refine r_iload_n 1 dX12_person_79 rfl ?_
      refine q_iald dX12_person_80 tr7 h (fun v8 h => ?_)
      obtain rfl := Option.some.inj h
      exact r_ireturn dX12_person_81 rfl hQ (Nat.le_refl _) (Nat.le_refl _)
    rcases if_split h with ⟨q9, h⟩ | ⟨n2, h⟩
    · refine r_table (2 : Int32) 60 82 dX12_person_22 q9 (by decide) (by decide) rfl (by decide) ?_
      refine r_aload_n 0 dX12_person_82 rfl ?_
      refine q_getR (e9 := (0, 4)) dX12_person_83 fd_X12_19 t0 rfl h (fun r9 tr9 h => ?_)
      refine r_iload_n 1 dX12_person_86 rfl ?_
      obtain ⟨v10, ev10, h⟩ := bd0_some h
      refine q_cVI [.int x1] dX12_person_87 cv_X12_166 (ci := 4) rfl rfl tr9 rfl rfl (Nat.le_of_ble_eq_true rfl) (by omega) (kX4_glassOf (d - 1) (by omega) r9 x1 tr9 v10 ev10) ?_
      obtain rfl := Option.some.inj h
      exact r_ireturn dX12_person_90 rfl hQ (Nat.le_refl _) (Nat.le_refl _)
    rcases if_split h with ⟨q9, h⟩ | ⟨n3, h⟩
    · refine r_table (3 : Int32) 69 91 dX12_person_22 q9 (by decide) (by decide) rfl (by decide) ?_
      refine r_aload_n 0 dX12_person_91 rfl ?_
      refine q_getR (e9 := (0, 4)) dX12_person_92 fd_X12_19 t0 rfl h (fun r11 tr11 h => ?_)
      refine r_iload_n 1 dX12_person_95 rfl ?_
      obtain ⟨v12, ev12, h⟩ := bd0_some h
      refine q_cVI [.int x1] dX12_person_96 cv_X12_170 (ci := 4) rfl rfl tr11 rfl rfl (Nat.le_of_ble_eq_true rfl) (by omega) (kX4_otherOf (d - 1) (by omega) r11 x1 tr11 v12 ev12) ?_
      obtain rfl := Option.some.inj h
      exact r_ireturn dX12_person_99 rfl hQ (Nat.le_refl _) (Nat.le_refl _)
    rcases if_split h with ⟨q9, h⟩ | ⟨n4, h⟩
    · refine r_table (4 : Int32) 78 100 dX12_person_22 q9 (by decide) (by decide) rfl (by decide) ?_
      refine r_aload_n 0 dX12_person_100 rfl ?_
      refine q_getR (e9 := (0, 3)) dX12_person_101 fd_X12_40 t0 rfl h (fun r13 tr13 h => ?_)
      refine q_getR (e9 := (1, 0)) dX12_person_104 fd_X12_173 tr13 rfl h (fun r14 tr14 h => ?_)
      refine r_iload_n 1 dX12_person_107 rfl ?_
      refine q_iald dX12_person_108 tr14 h (fun v15 h => ?_)
      obtain rfl := Option.some.inj h
      exact r_ireturn dX12_person_109 rfl hQ (Nat.le_refl _) (Nat.le_refl _)
    rcases if_split h with ⟨q9, h⟩ | ⟨n5, h⟩
    · refine r_table (5 : Int32) 88 110 dX12_person_22 q9 (by decide) (by decide) rfl (by decide) ?_
      refine r_aload_n 0 dX12_person_110 rfl ?_
      refine q_getR (e9 := (0, 3)) dX12_person_111 fd_X12_40 t0 rfl h (fun r16 tr16 h => ?_)
      refine r_iload_n 1 dX12_person_114 rfl ?_
      obtain ⟨v17, ev17, h⟩ := bd0_some h
      refine q_cVI [.int x1] dX12_person_115 cv_X12_176 (ci := 3) rfl rfl tr16 rfl rfl (Nat.le_of_ble_eq_true rfl) (by omega) (kX3_isWilling (d - 1) (by omega) r16 x1 tr16 v17 ev17) ?_
      obtain ⟨v18, ev18, h⟩ := bd0_some h
      refine q_cSI [.int v17] dX12_person_118 cs_X12_158 rfl rfl (Nat.le_of_ble_eq_true rfl) (by omega) (kX12_asNumber (d - 1) (by omega) v17  v18 ev18) ?_
      obtain rfl := Option.some.inj h
      exact r_ireturn dX12_person_121 rfl hQ (Nat.le_refl _) (Nat.le_refl _)
    have n0 := ne_int n0 (z := 0) rfl
    have n1 := ne_int n1 (z := 1) rfl
    have n2 := ne_int n2 (z := 2) rfl
    have n3 := ne_int n3 (z := 3) rfl
    have n4 := ne_int n4 (z := 4) rfl
    have n5 := ne_int n5 (z := 5) rfl
    refine r_tableD 122 dX12_person_22 (by omega) (by decide) ?_
    exact (nomatch h)
  · exact (nomatch h)
theorem tX12_glass_b211 {l : Launch} {G : gg} {Γ : ly} {d : Nat} {Q : Option Value → ly → mm → Prop} (hdd : 2 ≤ d) (σ : mm)  (s0 : Int32)   (r : Int32) (h : fX12_glass_b211 Γ.2 σ s0 = some r) (hQ : Q (some (.int r)) Γ σ) : WP l G yX12_glass cX12_glass 3 (some .int) d 0 0 Q 0 0 211 [] [.int s0] Γ σ := by
  unfold fX12_glass_b211 at h
  obtain rfl := Option.some.inj h
  exact r_ireturn dX12_glass_211 rfl hQ (Nat.le_refl _) (Nat.le_refl _)
theorem tX12_glass_b192 {l : Launch} {G : gg} {Γ : ly} {d : Nat} {Q : Option Value → ly → mm → Prop} (hdd : 2 ≤ d) (σ : mm)     (r : Int32) (h : fX12_glass_b192 Γ.2 σ  = some r) (hQ : Q (some (.int r)) Γ σ) : WP l G yX12_glass cX12_glass 3 (some .int) d 0 0 Q 0 0 192 [] [] Γ σ := by
  unfold fX12_glass_b192 at h
  refine r_iconst (v := 0) dX12_glass_192 (by decide) ?_
  refine r_goto 211 dX12_glass_193 (by decide) ?_
  exact tX12_glass_b211 hdd σ (0 : Int32)  _ h hQ
theorem kX12_glass {l : Launch} {G : gg} {Γ : ly} {σ : mm} (d : Nat) (hdd : 2 ≤ d) (x0 : Nat) (x1 : Int32) (x2 : Int32) (t0 : tyOK Γ (0, 11) x0) (r : Int32) (h : fX12_glass Γ.2 σ x0 x1 x2 = some r) : CT l G yX12_glass cX12_glass 3 (some .int) d 0 0 [.ref (G.2.1 x0), .int x1, .int x2] Γ σ (PP (some (.int r)) Γ σ) := by
  refine CT.ofWP (by decide) (Nat.le_of_ble_eq_true rfl) ?_
  have hQ : PP (some (.int r)) Γ σ (some (.int r)) Γ σ := PP.self
  generalize PP (some (.int r)) Γ σ = Q at hQ ⊢
  show WP l G yX12_glass cX12_glass 3 (some .int) d 0 0 Q 0 0 0 [(0, .ref (G.2.1 x0)), (1, .int x1), (2, .int x2)] [] Γ σ
  unfold fX12_glass at h
  refine r_aload_n 0 dX12_glass_0 rfl ?_
  refine q_getR (e9 := (0, 4)) dX12_glass_1 fd_X12_19 t0 rfl h (fun r1 tr1 h => ?_)
  refine r_iload_n 1 dX12_glass_4 rfl ?_
  obtain ⟨v2, ev2, h⟩ := bd0_some h
  refine q_cVI [.int x1] dX12_glass_5 cv_X12_181 (ci := 4) rfl rfl tr1 rfl rfl (Nat.le_of_ble_eq_true rfl) (by omega) (kX4_hasGlass (d - 1) (by omega) r1 x1 tr1 v2 ev2) ?_
  refine r_if_ne 21 dX12_glass_8 (by decide) h (fun _ h => ?_) (fun _ h => ?_)
  · refine r_iload_n 2 dX12_glass_21 rfl ?_
    rcases if_split h with ⟨q9, h⟩ | ⟨n0, h⟩
    · refine r_table (0 : Int32) 54 76 dX12_glass_22 q9 (by decide) (by decide) rfl (by decide) ?_
      refine r_aload_n 0 dX12_glass_76 rfl ?_
      refine q_getR (e9 := (0, 4)) dX12_glass_77 fd_X12_19 t0 rfl h (fun r3 tr3 h => ?_)
      refine q_getR (e9 := (1, 0)) dX12_glass_80 fd_X12_186 tr3 rfl h (fun r4 tr4 h => ?_)
      refine r_iload_n 1 dX12_glass_83 rfl ?_
      refine q_iald dX12_glass_84 tr4 h (fun v5 h => ?_)
      obtain rfl := Option.some.inj h
      exact r_ireturn dX12_glass_85 rfl hQ (Nat.le_refl _) (Nat.le_refl _)
    rcases if_split h with ⟨q9, h⟩ | ⟨n1, h⟩
    · refine r_table (1 : Int32) 64 86 dX12_glass_22 q9 (by decide) (by decide) rfl (by decide) ?_
      refine r_aload_n 0 dX12_glass_86 rfl ?_
      refine q_getR (e9 := (0, 4)) dX12_glass_87 fd_X12_19 t0 rfl h (fun r6 tr6 h => ?_)
      refine q_getR (e9 := (1, 0)) dX12_glass_90 fd_X12_189 tr6 rfl h (fun r7 tr7 h => ?_)
      refine r_iload_n 1 dX12_glass_93 rfl ?_
      refine q_iald dX12_glass_94 tr7 h (fun v8 h => ?_)
      obtain rfl := Option.some.inj h
      exact r_ireturn dX12_glass_95 rfl hQ (Nat.le_refl _) (Nat.le_refl _)
    rcases if_split h with ⟨q9, h⟩ | ⟨n2, h⟩
    · refine r_table (2 : Int32) 74 96 dX12_glass_22 q9 (by decide) (by decide) rfl (by decide) ?_
      refine r_aload_n 0 dX12_glass_96 rfl ?_
      refine q_getR (e9 := (0, 4)) dX12_glass_97 fd_X12_19 t0 rfl h (fun r9 tr9 h => ?_)
      refine q_getR (e9 := (1, 0)) dX12_glass_100 fd_X12_192 tr9 rfl h (fun r10 tr10 h => ?_)
      refine r_iload_n 1 dX12_glass_103 rfl ?_
      refine q_iald dX12_glass_104 tr10 h (fun v11 h => ?_)
      obtain rfl := Option.some.inj h
      exact r_ireturn dX12_glass_105 rfl hQ (Nat.le_refl _) (Nat.le_refl _)
    rcases if_split h with ⟨q9, h⟩ | ⟨n3, h⟩
    · refine r_table (3 : Int32) 84 106 dX12_glass_22 q9 (by decide) (by decide) rfl (by decide) ?_
      refine r_aload_n 0 dX12_glass_106 rfl ?_
      refine q_getR (e9 := (0, 3)) dX12_glass_107 fd_X12_40 t0 rfl h (fun r12 tr12 h => ?_)
      refine q_getR (e9 := (1, 0)) dX12_glass_110 fd_X12_195 tr12 rfl h (fun r13 tr13 h => ?_)
      refine r_iload_n 1 dX12_glass_113 rfl ?_
      refine q_iald dX12_glass_114 tr13 h (fun v14 h => ?_)
      obtain rfl := Option.some.inj h
      exact r_ireturn dX12_glass_115 rfl hQ (Nat.le_refl _) (Nat.le_refl _)
    rcases if_split h with ⟨q9, h⟩ | ⟨n4, h⟩
    · refine r_table (4 : Int32) 94 116 dX12_glass_22 q9 (by decide) (by decide) rfl (by decide) ?_
      refine r_aload_n 0 dX12_glass_116 rfl ?_
      refine q_getR (e9 := (0, 3)) dX12_glass_117 fd_X12_40 t0 rfl h (fun r15 tr15 h => ?_)
      refine q_getR (e9 := (1, 0)) dX12_glass_120 fd_X12_198 tr15 rfl h (fun r16 tr16 h => ?_)
      refine r_iload_n 1 dX12_glass_123 rfl ?_
      refine q_iald dX12_glass_124 tr16 h (fun v17 h => ?_)
      obtain rfl := Option.some.inj h
      exact r_ireturn dX12_glass_125 rfl hQ (Nat.le_refl _) (Nat.le_refl _)
    rcases if_split h with ⟨q9, h⟩ | ⟨n5, h⟩
    · refine r_table (5 : Int32) 104 126 dX12_glass_22 q9 (by decide) (by decide) rfl (by decide) ?_
      refine r_aload_n 0 dX12_glass_126 rfl ?_
      refine q_getR (e9 := (0, 3)) dX12_glass_127 fd_X12_40 t0 rfl h (fun r18 tr18 h => ?_)
      refine q_getR (e9 := (1, 0)) dX12_glass_130 fd_X12_201 tr18 rfl h (fun r19 tr19 h => ?_)
      refine r_iload_n 1 dX12_glass_133 rfl ?_
      refine q_iald dX12_glass_134 tr19 h (fun v20 h => ?_)
      obtain rfl := Option.some.inj h
      exact r_ireturn dX12_glass_135 rfl hQ (Nat.le_refl _) (Nat.le_refl _)
    rcases if_split h with ⟨q9, h⟩ | ⟨n6, h⟩
    · refine r_table (6 : Int32) 114 136 dX12_glass_22 q9 (by decide) (by decide) rfl (by decide) ?_
      refine r_aload_n 0 dX12_glass_136 rfl ?_
      refine q_getR (e9 := (0, 3)) dX12_glass_137 fd_X12_40 t0 rfl h (fun r21 tr21 h => ?_)
      refine r_iload_n 1 dX12_glass_140 rfl ?_
      obtain ⟨v22, ev22, h⟩ := bd0_some h
      refine q_cVI [.int x1] dX12_glass_141 cv_X12_204 (ci := 3) rfl rfl tr21 rfl rfl (Nat.le_of_ble_eq_true rfl) (by omega) (kX3_isLapsed (d - 1) (by omega) r21 x1 tr21 v22 ev22) ?_
      obtain ⟨v23, ev23, h⟩ := bd0_some h
      refine q_cSI [.int v22] dX12_glass_144 cs_X12_158 rfl rfl (Nat.le_of_ble_eq_true rfl) (by omega) (kX12_asNumber (d - 1) (by omega) v22  v23 ev23) ?_
      obtain rfl := Option.some.inj h
      exact r_ireturn dX12_glass_147 rfl hQ (Nat.le_refl _) (Nat.le_refl _)
    rcases if_split h with ⟨q9, h⟩ | ⟨n7, h⟩
    · refine r_table (7 : Int32) 126 148 dX12_glass_22 q9 (by decide) (by decide) rfl (by decide) ?_
      refine r_aload_n 0 dX12_glass_148 rfl ?_
      refine q_getR (e9 := (0, 3)) dX12_glass_149 fd_X12_40 t0 rfl h (fun r24 tr24 h => ?_)
      refine q_getR (e9 := (1, 0)) dX12_glass_152 fd_X12_207 tr24 rfl h (fun r25 tr25 h => ?_)
      refine r_iload_n 1 dX12_glass_155 rfl ?_
      refine q_iald dX12_glass_156 tr25 h (fun v26 h => ?_)
      obtain rfl := Option.some.inj h
      exact r_ireturn dX12_glass_157 rfl hQ (Nat.le_refl _) (Nat.le_refl _)
    rcases if_split h with ⟨q9, h⟩ | ⟨n8, h⟩
    · refine r_table (8 : Int32) 136 158 dX12_glass_22 q9 (by decide) (by decide) rfl (by decide) ?_
      refine r_aload_n 0 dX12_glass_158 rfl ?_
      refine q_getR (e9 := (0, 3)) dX12_glass_159 fd_X12_40 t0 rfl h (fun r27 tr27 h => ?_)
      refine q_getR (e9 := (1, 0)) dX12_glass_162 fd_X12_210 tr27 rfl h (fun r28 tr28 h => ?_)
      refine r_iload_n 1 dX12_glass_165 rfl ?_
      refine q_iald dX12_glass_166 tr28 h (fun v29 h => ?_)
      obtain rfl := Option.some.inj h
      exact r_ireturn dX12_glass_167 rfl hQ (Nat.le_refl _) (Nat.le_refl _)
    rcases if_split h with ⟨q9, h⟩ | ⟨n9, h⟩
    · refine r_table (9 : Int32) 146 168 dX12_glass_22 q9 (by decide) (by decide) rfl (by decide) ?_
      refine r_aload_n 0 dX12_glass_168 rfl ?_
      refine q_getR (e9 := (0, 3)) dX12_glass_169 fd_X12_40 t0 rfl h (fun r30 tr30 h => ?_)
      refine r_iload_n 1 dX12_glass_172 rfl ?_
      obtain ⟨v31, ev31, h⟩ := bd0_some h
      refine q_cVI [.int x1] dX12_glass_173 cv_X12_204 (ci := 3) rfl rfl tr30 rfl rfl (Nat.le_of_ble_eq_true rfl) (by omega) (kX3_isLapsed (d - 1) (by omega) r30 x1 tr30 v31 ev31) ?_
      refine r_if_ne 192 dX12_glass_176 (by decide) h (fun _ h => ?_) (fun _ h => ?_)
      · refine r_pick [] rfl ?_
        exact tX12_glass_b192 hdd σ  _ h hQ
      · refine r_aload_n 0 dX12_glass_179 rfl ?_
        refine q_getR (e9 := (0, 3)) dX12_glass_180 fd_X12_40 t0 rfl h (fun r32 tr32 h => ?_)
        refine r_getI dX12_glass_183 fd_X12_213 tr32 ?_
        refine r_sipush (v := 600) dX12_glass_186 (by decide) ?_
        refine r_icmp_lt 196 dX12_glass_189 (by decide) h (fun _ h => ?_) (fun _ h => ?_)
        · refine r_aload_n 0 dX12_glass_196 rfl ?_
          refine q_getR (e9 := (0, 3)) dX12_glass_197 fd_X12_40 t0 rfl h (fun r33 tr33 h => ?_)
          refine r_iload_n 1 dX12_glass_200 rfl ?_
          refine r_aload_n 0 dX12_glass_201 rfl ?_
          refine q_getR (e9 := (0, 3)) dX12_glass_202 fd_X12_40 t0 rfl h (fun r34 tr34 h => ?_)
          refine r_getI dX12_glass_205 fd_X12_213 tr34 ?_
          obtain ⟨v35, ev35, h⟩ := bd0_some h
          refine q_cVI [.int x1, .int (σ.1 r34 1)] dX12_glass_208 cv_X12_216 (ci := 3) rfl rfl tr33 rfl rfl (Nat.le_of_ble_eq_true rfl) (by omega) (kX3_runsAt (d - 1) (by omega) r33 x1 (σ.1 r34 1) tr33 v35 ev35) ?_
          refine r_pick [] rfl ?_
          exact tX12_glass_b211 hdd σ v35  _ h hQ
        · refine r_pick [] rfl ?_
          exact tX12_glass_b192 hdd σ  _ h hQ
    have n0 := ne_int n0 (z := 0) rfl
    have n1 := ne_int n1 (z := 1) rfl
    have n2 := ne_int n2 (z := 2) rfl
    have n3 := ne_int n3 (z := 3) rfl
    have n4 := ne_int n4 (z := 4) rfl
    have n5 := ne_int n5 (z := 5) rfl
    have n6 := ne_int n6 (z := 6) rfl
    have n7 := ne_int n7 (z := 7) rfl
    have n8 := ne_int n8 (z := 8) rfl
    have n9 := ne_int n9 (z := 9) rfl
    refine r_tableD 212 dX12_glass_22 (by omega) (by decide) ?_
    exact (nomatch h)
  · exact (nomatch h)
theorem kX12_now {l : Launch} {G : gg} {Γ : ly} {σ : mm} (d : Nat) (hdd : 3 ≤ d) (x0 : Nat) (x1 : Int32) (t0 : tyOK Γ (0, 11) x0) (r : Int32) (h : fX12_now Γ.2 σ x0 x1 = some r) : CT l G yX12_now cX12_now 2 (some .int) d 0 0 [.ref (G.2.1 x0), .int x1] Γ σ (PP (some (.int r)) Γ σ) := by
  refine CT.ofWP (by decide) (Nat.le_of_ble_eq_true rfl) ?_
  have hQ : PP (some (.int r)) Γ σ (some (.int r)) Γ σ := PP.self
  generalize PP (some (.int r)) Γ σ = Q at hQ ⊢
  show WP l G yX12_now cX12_now 2 (some .int) d 0 0 Q 0 0 0 [(0, .ref (G.2.1 x0)), (1, .int x1)] [] Γ σ
  unfold fX12_now at h
  refine r_iload_n 1 dX12_now_0 rfl ?_
  rcases if_split h with ⟨q9, h⟩ | ⟨n0, h⟩
  · refine r_table (0 : Int32) 39 40 dX12_now_1 q9 (by decide) (by decide) rfl (by decide) ?_
    refine r_aload_n 0 dX12_now_40 rfl ?_
    refine q_getR (e9 := (0, 3)) dX12_now_41 fd_X12_40 t0 rfl h (fun r1 tr1 h => ?_)
    refine r_getI dX12_now_44 fd_X12_213 tr1 ?_
    obtain rfl := Option.some.inj h
    exact r_ireturn dX12_now_47 rfl hQ (Nat.le_refl _) (Nat.le_refl _)
  rcases if_split h with ⟨q9, h⟩ | ⟨n1, h⟩
  · refine r_table (1 : Int32) 47 48 dX12_now_1 q9 (by decide) (by decide) rfl (by decide) ?_
    refine r_aload_n 0 dX12_now_48 rfl ?_
    refine q_getR (e9 := (0, 4)) dX12_now_49 fd_X12_19 t0 rfl h (fun r2 tr2 h => ?_)
    refine r_aload_n 0 dX12_now_52 rfl ?_
    refine q_getR (e9 := (0, 3)) dX12_now_53 fd_X12_40 t0 rfl h (fun r3 tr3 h => ?_)
    refine r_getI dX12_now_56 fd_X12_213 tr3 ?_
    obtain ⟨v4, ev4, h⟩ := bd0_some h
    refine q_cVI [.int (σ.1 r3 1)] dX12_now_59 cv_X12_222 (ci := 4) rfl rfl tr2 rfl rfl (Nat.le_of_ble_eq_true rfl) (by omega) (kX4_isDamp (d - 1) (by omega) r2 (σ.1 r3 1) tr2 v4 ev4) ?_
    obtain ⟨v5, ev5, h⟩ := bd0_some h
    refine q_cSI [.int v4] dX12_now_62 cs_X12_158 rfl rfl (Nat.le_of_ble_eq_true rfl) (by omega) (kX12_asNumber (d - 1) (by omega) v4  v5 ev5) ?_
    obtain rfl := Option.some.inj h
    exact r_ireturn dX12_now_65 rfl hQ (Nat.le_refl _) (Nat.le_refl _)
  rcases if_split h with ⟨q9, h⟩ | ⟨n2, h⟩
  · refine r_table (2 : Int32) 65 66 dX12_now_1 q9 (by decide) (by decide) rfl (by decide) ?_
    refine r_aload_n 0 dX12_now_66 rfl ?_
    refine q_getR (e9 := (0, 3)) dX12_now_67 fd_X12_40 t0 rfl h (fun r6 tr6 h => ?_)
    refine r_getI dX12_now_70 fd_X12_225 tr6 ?_
    obtain rfl := Option.some.inj h
    exact r_ireturn dX12_now_73 rfl hQ (Nat.le_refl _) (Nat.le_refl _)
  rcases if_split h with ⟨q9, h⟩ | ⟨n3, h⟩
  · refine r_table (3 : Int32) 73 74 dX12_now_1 q9 (by decide) (by decide) rfl (by decide) ?_
    refine r_aload_n 0 dX12_now_74 rfl ?_
    refine q_getR (e9 := (0, 3)) dX12_now_75 fd_X12_40 t0 rfl h (fun r7 tr7 h => ?_)
    obtain ⟨v8, ev8, h⟩ := bd0_some h
    refine q_cVI [] dX12_now_78 cv_X12_228 (ci := 3) rfl rfl tr7 rfl rfl (Nat.le_of_ble_eq_true rfl) (by omega) (kX3_awakeBits (d - 1) (by omega) r7 tr7 v8 ev8) ?_
    obtain rfl := Option.some.inj h
    exact r_ireturn dX12_now_81 rfl hQ (Nat.le_refl _) (Nat.le_refl _)
  rcases if_split h with ⟨q9, h⟩ | ⟨n4, h⟩
  · refine r_table (4 : Int32) 81 82 dX12_now_1 q9 (by decide) (by decide) rfl (by decide) ?_
    refine r_aload_n 0 dX12_now_82 rfl ?_
    refine q_getR (e9 := (0, 3)) dX12_now_83 fd_X12_40 t0 rfl h (fun r9 tr9 h => ?_)
    refine r_aload_n 0 dX12_now_86 rfl ?_
    refine q_getR (e9 := (0, 3)) dX12_now_87 fd_X12_40 t0 rfl h (fun r10 tr10 h => ?_)
    refine q_getR (e9 := (1, 0)) dX12_now_90 fd_X12_210 tr10 rfl h (fun r11 tr11 h => ?_)
    obtain ⟨v12, ev12, h⟩ := bd0_some h
    refine q_cVI [.ref (G.2.1 r11)] dX12_now_93 cv_X12_231 (ci := 3) rfl rfl tr9 rfl rfl (Nat.le_of_ble_eq_true rfl) (by omega) (kX3_sumOverGlasses (d - 1) (by omega) r9 r11 tr9 tr11 v12 ev12) ?_
    obtain rfl := Option.some.inj h
    exact r_ireturn dX12_now_96 rfl hQ (Nat.le_refl _) (Nat.le_refl _)
  rcases if_split h with ⟨q9, h⟩ | ⟨n5, h⟩
  · refine r_table (5 : Int32) 96 97 dX12_now_1 q9 (by decide) (by decide) rfl (by decide) ?_
    refine r_aload_n 0 dX12_now_97 rfl ?_
    refine q_getR (e9 := (0, 3)) dX12_now_98 fd_X12_40 t0 rfl h (fun r13 tr13 h => ?_)
    refine r_aload_n 0 dX12_now_101 rfl ?_
    refine q_getR (e9 := (0, 3)) dX12_now_102 fd_X12_40 t0 rfl h (fun r14 tr14 h => ?_)
    refine q_getR (e9 := (1, 0)) dX12_now_105 fd_X12_198 tr14 rfl h (fun r15 tr15 h => ?_)
    obtain ⟨v16, ev16, h⟩ := bd0_some h
    refine q_cVI [.ref (G.2.1 r15)] dX12_now_108 cv_X12_231 (ci := 3) rfl rfl tr13 rfl rfl (Nat.le_of_ble_eq_true rfl) (by omega) (kX3_sumOverGlasses (d - 1) (by omega) r13 r15 tr13 tr15 v16 ev16) ?_
    obtain rfl := Option.some.inj h
    exact r_ireturn dX12_now_111 rfl hQ (Nat.le_refl _) (Nat.le_refl _)
  have n0 := ne_int n0 (z := 0) rfl
  have n1 := ne_int n1 (z := 1) rfl
  have n2 := ne_int n2 (z := 2) rfl
  have n3 := ne_int n3 (z := 3) rfl
  have n4 := ne_int n4 (z := 4) rfl
  have n5 := ne_int n5 (z := 5) rfl
  refine r_tableD 112 dX12_now_1 (by omega) (by decide) ?_
  refine r_iconst (v := -1) dX12_now_112 (by decide) ?_
  obtain rfl := Option.some.inj h
  exact r_ireturn dX12_now_113 rfl hQ (Nat.le_refl _) (Nat.le_refl _)
theorem kX12_count {l : Launch} {G : gg} {Γ : ly} {σ : mm} (d : Nat) (hdd : 1 ≤ d) (x0 : Nat) (x1 : Int32) (t0 : tyOK Γ (0, 11) x0) (r : Int32) (h : fX12_count Γ.2 σ x0 x1 = some r) : CT l G yX12_count cX12_count 2 (some .int) d 0 0 [.ref (G.2.1 x0), .int x1] Γ σ (PP (some (.int r)) Γ σ) := by
  refine CT.ofWP (by decide) (Nat.le_of_ble_eq_true rfl) ?_
  have hQ : PP (some (.int r)) Γ σ (some (.int r)) Γ σ := PP.self
  generalize PP (some (.int r)) Γ σ = Q at hQ ⊢
  show WP l G yX12_count cX12_count 2 (some .int) d 0 0 Q 0 0 0 [(0, .ref (G.2.1 x0)), (1, .int x1)] [] Γ σ
  unfold fX12_count at h
  refine r_iload_n 1 dX12_count_0 rfl ?_
  rcases if_split h with ⟨q9, h⟩ | ⟨n0, h⟩
  · refine r_table (0 : Int32) 51 52 dX12_count_1 q9 (by decide) (by decide) rfl (by decide) ?_
    refine r_aload_n 0 dX12_count_52 rfl ?_
    refine q_getR (e9 := (0, 4)) dX12_count_53 fd_X12_19 t0 rfl h (fun r1 tr1 h => ?_)
    refine r_getI dX12_count_56 fd_X12_235 tr1 ?_
    obtain rfl := Option.some.inj h
    exact r_ireturn dX12_count_59 rfl hQ (Nat.le_refl _) (Nat.le_refl _)
  rcases if_split h with ⟨q9, h⟩ | ⟨n1, h⟩
  · refine r_table (1 : Int32) 59 60 dX12_count_1 q9 (by decide) (by decide) rfl (by decide) ?_
    refine r_aload_n 0 dX12_count_60 rfl ?_
    refine q_getR (e9 := (0, 4)) dX12_count_61 fd_X12_19 t0 rfl h (fun r2 tr2 h => ?_)
    refine r_getI dX12_count_64 fd_X12_238 tr2 ?_
    obtain rfl := Option.some.inj h
    exact r_ireturn dX12_count_67 rfl hQ (Nat.le_refl _) (Nat.le_refl _)
  rcases if_split h with ⟨q9, h⟩ | ⟨n2, h⟩
  · refine r_table (2 : Int32) 67 68 dX12_count_1 q9 (by decide) (by decide) rfl (by decide) ?_
    refine r_aload_n 0 dX12_count_68 rfl ?_
    refine q_getR (e9 := (0, 4)) dX12_count_69 fd_X12_19 t0 rfl h (fun r3 tr3 h => ?_)
    refine q_getR (e9 := (0, 2)) dX12_count_72 fd_X12_241 tr3 rfl h (fun r4 tr4 h => ?_)
    refine r_getI dX12_count_75 fd_X12_245 tr4 ?_
    obtain rfl := Option.some.inj h
    exact r_ireturn dX12_count_78 rfl hQ (Nat.le_refl _) (Nat.le_refl _)
  rcases if_split h with ⟨q9, h⟩ | ⟨n3, h⟩
  · refine r_table (3 : Int32) 78 79 dX12_count_1 q9 (by decide) (by decide) rfl (by decide) ?_
    refine r_aload_n 0 dX12_count_79 rfl ?_
    refine q_getR (e9 := (0, 4)) dX12_count_80 fd_X12_19 t0 rfl h (fun r5 tr5 h => ?_)
    refine r_getI dX12_count_83 fd_X12_248 tr5 ?_
    obtain rfl := Option.some.inj h
    exact r_ireturn dX12_count_86 rfl hQ (Nat.le_refl _) (Nat.le_refl _)
  rcases if_split h with ⟨q9, h⟩ | ⟨n4, h⟩
  · refine r_table (4 : Int32) 86 87 dX12_count_1 q9 (by decide) (by decide) rfl (by decide) ?_
    refine r_aload_n 0 dX12_count_87 rfl ?_
    refine q_getR (e9 := (0, 4)) dX12_count_88 fd_X12_19 t0 rfl h (fun r6 tr6 h => ?_)
    refine r_getI dX12_count_91 fd_X12_251 tr6 ?_
    obtain rfl := Option.some.inj h
    exact r_ireturn dX12_count_94 rfl hQ (Nat.le_refl _) (Nat.le_refl _)
  rcases if_split h with ⟨q9, h⟩ | ⟨n5, h⟩
  · refine r_table (5 : Int32) 94 95 dX12_count_1 q9 (by decide) (by decide) rfl (by decide) ?_
    refine r_aload_n 0 dX12_count_95 rfl ?_
    refine q_getR (e9 := (0, 4)) dX12_count_96 fd_X12_19 t0 rfl h (fun r7 tr7 h => ?_)
    refine r_getI dX12_count_99 fd_X12_254 tr7 ?_
    obtain ⟨v8, ev8, h⟩ := bd0_some h
    refine q_cSI [.int (σ.1 r7 18)] dX12_count_102 cs_X12_158 rfl rfl (Nat.le_of_ble_eq_true rfl) (by omega) (kX12_asNumber (d - 1) (by omega) (σ.1 r7 18)  v8 ev8) ?_
    obtain rfl := Option.some.inj h
    exact r_ireturn dX12_count_105 rfl hQ (Nat.le_refl _) (Nat.le_refl _)
  rcases if_split h with ⟨q9, h⟩ | ⟨n6, h⟩
  · refine r_table (6 : Int32) 105 106 dX12_count_1 q9 (by decide) (by decide) rfl (by decide) ?_
    refine r_aload_n 0 dX12_count_106 rfl ?_
    refine q_getR (e9 := (0, 4)) dX12_count_107 fd_X12_19 t0 rfl h (fun r9 tr9 h => ?_)
    refine r_getI dX12_count_110 fd_X12_258 tr9 ?_
    obtain ⟨v10, ev10, h⟩ := bd0_some h
    refine q_cSI [.int (σ.1 r9 19)] dX12_count_113 cs_X12_158 rfl rfl (Nat.le_of_ble_eq_true rfl) (by omega) (kX12_asNumber (d - 1) (by omega) (σ.1 r9 19)  v10 ev10) ?_
    obtain rfl := Option.some.inj h
    exact r_ireturn dX12_count_116 rfl hQ (Nat.le_refl _) (Nat.le_refl _)
  rcases if_split h with ⟨q9, h⟩ | ⟨n7, h⟩
  · refine r_table (7 : Int32) 116 117 dX12_count_1 q9 (by decide) (by decide) rfl (by decide) ?_
    refine r_aload_n 0 dX12_count_117 rfl ?_
    refine q_getR (e9 := (0, 4)) dX12_count_118 fd_X12_19 t0 rfl h (fun r11 tr11 h => ?_)
    refine r_getI dX12_count_121 fd_X12_261 tr11 ?_
    obtain rfl := Option.some.inj h
    exact r_ireturn dX12_count_124 rfl hQ (Nat.le_refl _) (Nat.le_refl _)
  rcases if_split h with ⟨q9, h⟩ | ⟨n8, h⟩
  · refine r_table (8 : Int32) 124 125 dX12_count_1 q9 (by decide) (by decide) rfl (by decide) ?_
    refine r_aload_n 0 dX12_count_125 rfl ?_
    refine q_getR (e9 := (0, 8)) dX12_count_126 fd_X12_10 t0 rfl h (fun r12 tr12 h => ?_)
    refine r_getI dX12_count_129 fd_X12_120 tr12 ?_
    obtain rfl := Option.some.inj h
    exact r_ireturn dX12_count_132 rfl hQ (Nat.le_refl _) (Nat.le_refl _)
  have n0 := ne_int n0 (z := 0) rfl
  have n1 := ne_int n1 (z := 1) rfl
  have n2 := ne_int n2 (z := 2) rfl
  have n3 := ne_int n3 (z := 3) rfl
  have n4 := ne_int n4 (z := 4) rfl
  have n5 := ne_int n5 (z := 5) rfl
  have n6 := ne_int n6 (z := 6) rfl
  have n7 := ne_int n7 (z := 7) rfl
  have n8 := ne_int n8 (z := 8) rfl
  refine r_tableD 133 dX12_count_1 (by omega) (by decide) ?_
  refine r_iconst (v := -1) dX12_count_133 (by decide) ?_
  obtain rfl := Option.some.inj h
  exact r_ireturn dX12_count_134 rfl hQ (Nat.le_refl _) (Nat.le_refl _)
theorem tX12_isFrom_b15 {l : Launch} {G : gg} {Γ : ly} {d : Nat} {Q : Option Value → ly → mm → Prop} (hdd : 0 ≤ d) (σ : mm)  (s0 : Int32)   (r : Int32) (h : fX12_isFrom_b15 Γ.2 σ s0 = some r) (hQ : Q (some (.int r)) Γ σ) : WP l G yX12_isFrom cX12_isFrom 3 (some .boolean) d 0 0 Q 0 0 15 [] [.int s0] Γ σ := by
  unfold fX12_isFrom_b15 at h
  obtain ⟨hbz, h⟩ := rZ_some h
  obtain rfl := Option.some.inj h
  exact r_zreturn dX12_isFrom_15 rfl hbz hQ (Nat.le_refl _) (Nat.le_refl _)
theorem tX12_isFrom_b14 {l : Launch} {G : gg} {Γ : ly} {d : Nat} {Q : Option Value → ly → mm → Prop} (hdd : 0 ≤ d) (σ : mm)     (r : Int32) (h : fX12_isFrom_b14 Γ.2 σ  = some r) (hQ : Q (some (.int r)) Γ σ) : WP l G yX12_isFrom cX12_isFrom 3 (some .boolean) d 0 0 Q 0 0 14 [] [] Γ σ := by
  unfold fX12_isFrom_b14 at h
  refine r_iconst (v := 0) dX12_isFrom_14 (by decide) ?_
  exact tX12_isFrom_b15 hdd σ (0 : Int32)  _ h hQ
theorem kX12_isFrom {l : Launch} {G : gg} {Γ : ly} {σ : mm} (d : Nat) (hdd : 0 ≤ d) (x0 : Int32) (x1 : Int32) (x2 : Int32)  (r : Int32) (h : fX12_isFrom Γ.2 σ x0 x1 x2 = some r) : CT l G yX12_isFrom cX12_isFrom 3 (some .boolean) d 0 0 [.int x0, .int x1, .int x2] Γ σ (PP (some (.int r)) Γ σ) := by
  refine CT.ofWP (by decide) (Nat.le_of_ble_eq_true rfl) ?_
  have hQ : PP (some (.int r)) Γ σ (some (.int r)) Γ σ := PP.self
  generalize PP (some (.int r)) Γ σ = Q at hQ ⊢
  show WP l G yX12_isFrom cX12_isFrom 3 (some .boolean) d 0 0 Q 0 0 0 [(0, .int x0), (1, .int x1), (2, .int x2)] [] Γ σ
  unfold fX12_isFrom at h
  refine r_iload_n 2 dX12_isFrom_0 rfl ?_
  refine r_iload_n 0 dX12_isFrom_1 rfl ?_
  refine r_icmp_lt 14 dX12_isFrom_2 (by decide) h (fun _ h => ?_) (fun _ h => ?_)
  · refine r_pick [] rfl ?_
    exact tX12_isFrom_b14 hdd σ  _ h hQ
  · refine r_iload_n 2 dX12_isFrom_5 rfl ?_
    refine r_iload_n 1 dX12_isFrom_6 rfl ?_
    refine r_icmp_gt 14 dX12_isFrom_7 (by decide) h (fun _ h => ?_) (fun _ h => ?_)
    · refine r_pick [] rfl ?_
      exact tX12_isFrom_b14 hdd σ  _ h hQ
    · refine r_iconst (v := 1) dX12_isFrom_10 (by decide) ?_
      refine r_goto 15 dX12_isFrom_11 (by decide) ?_
      refine r_pick [] rfl ?_
      exact tX12_isFrom_b15 hdd σ (1 : Int32)  _ h hQ
theorem tX12_attempt_b38 {l : Launch} {G : gg} {Γ : ly} {d : Nat} {Q : Option Value → ly → mm → Prop} (hdd : 4 ≤ d) (σ : mm) (x4 : Int32)    (r : (Int32 × mm)) (h : fX12_attempt_b38 Γ.2 σ x4 = some r) (hQ : Q (some (.int r.1)) Γ r.2) : WP l G yX12_attempt cX12_attempt 5 (some .int) d 0 0 Q 0 0 38 [(4, .int x4)] [] Γ σ := by
  unfold fX12_attempt_b38 at h
  refine r_iload 0 dX12_attempt_38 rfl ?_
  obtain rfl := Option.some.inj h
  exact r_ireturn dX12_attempt_40 rfl hQ (Nat.le_refl _) (Nat.le_refl _)
theorem kX12_attempt {l : Launch} {G : gg} {Γ : ly} {σ : mm} (d : Nat) (hdd : 4 ≤ d) (x0 : Nat) (x1 : Int32) (x2 : Int32) (x3 : Int32) (t0 : tyOK Γ (0, 11) x0) (r : (Int32 × mm)) (h : fX12_attempt Γ.2 σ x0 x1 x2 x3 = some r) : CT l G yX12_attempt cX12_attempt 5 (some .int) d 0 0 [.ref (G.2.1 x0), .int x1, .int x2, .int x3] Γ σ (PP (some (.int r.1)) Γ r.2) := by
  refine CT.ofWP (by decide) (Nat.le_of_ble_eq_true rfl) ?_
  have hQ : PP (some (.int r.1)) Γ r.2 (some (.int r.1)) Γ r.2 := PP.self
  generalize PP (some (.int r.1)) Γ r.2 = Q at hQ ⊢
  show WP l G yX12_attempt cX12_attempt 5 (some .int) d 0 0 Q 0 0 0 [(0, .ref (G.2.1 x0)), (1, .int x1), (2, .int x2), (3, .int x3)] [] Γ σ
  unfold fX12_attempt at h
  refine r_aload_n 0 dX12_attempt_0 rfl ?_
  refine q_getR (e9 := (0, 3)) dX12_attempt_1 fd_X12_40 t0 rfl h (fun r1 tr1 h => ?_)
  refine r_iload_n 1 dX12_attempt_4 rfl ?_
  refine r_iload_n 2 dX12_attempt_5 rfl ?_
  refine r_iload_n 3 dX12_attempt_6 rfl ?_
  obtain ⟨v2, ev2, h⟩ := bd0_some h
  refine q_cVI [.int x1, .int x2, .int x3] dX12_attempt_7 cv_X12_272 (ci := 3) rfl rfl tr1 rfl rfl (Nat.le_of_ble_eq_true rfl) (by omega) (kX3_whyNot (d - 1) (by omega) r1 x1 x2 x3 tr1 v2 ev2) ?_
  refine r_istore (lv' := [(4, .int v2), (0, .ref (G.2.1 x0)), (1, .int x1), (2, .int x2), (3, .int x3)]) dX12_attempt_10 (by decide) rfl ?_
  refine r_iload 0 dX12_attempt_12 rfl ?_
  refine r_if_ne 38 dX12_attempt_14 (by decide) h (fun _ h => ?_) (fun _ h => ?_)
  · refine r_pick [0] rfl ?_
    exact tX12_attempt_b38 hdd σ v2  _ h hQ
  · refine r_aload_n 1 dX12_attempt_17 rfl ?_
    refine q_getR (e9 := (0, 9)) dX12_attempt_18 fd_X12_50 t0 rfl h (fun r3 tr3 h => ?_)
    refine r_aload_n 1 dX12_attempt_21 rfl ?_
    refine q_getR (e9 := (0, 3)) dX12_attempt_22 fd_X12_40 t0 rfl h (fun r4 tr4 h => ?_)
    obtain ⟨τ5, eτ5, h⟩ := bd0_some h
    refine q_cVV [.ref (G.2.1 r4)] dX12_attempt_25 cv_X12_275 (ci := 9) rfl rfl tr3 rfl rfl (Nat.le_of_ble_eq_true rfl) (by omega) (kX9_keep (d - 1) (by omega) r3 r4 tr3 tr4 τ5 eτ5) ?_
    refine r_aload_n 1 dX12_attempt_28 rfl ?_
    refine q_getR (e9 := (0, 3)) dX12_attempt_29 fd_X12_40 t0 rfl h (fun r6 tr6 h => ?_)
    refine r_iload_n 2 dX12_attempt_32 rfl ?_
    refine r_iload_n 3 dX12_attempt_33 rfl ?_
    refine r_iload_n 4 dX12_attempt_34 rfl ?_
    obtain ⟨τ7, eτ7, h⟩ := bd0_some h
    refine q_cVV [.int x1, .int x2, .int x3] dX12_attempt_35 cv_X12_279 (ci := 3) rfl rfl tr6 rfl rfl (Nat.le_of_ble_eq_true rfl) (by omega) (kX3_carryOut (d - 1) (by omega) r6 x1 x2 x3 tr6 τ7 eτ7) ?_
    refine r_pick [0] rfl ?_
    exact tX12_attempt_b38 hdd τ7 v2  _ h hQ
theorem tX12_turn_b22 {l : Launch} {G : gg} {Γ : ly} {d : Nat} {Q : Option Value → ly → mm → Prop} (hdd : 5 ≤ d) (σ : mm)  (s0 : Int32)   (r : (Int32 × mm)) (h : fX12_turn_b22 Γ.2 σ s0 = some r) (hQ : Q (some (.int r.1)) Γ r.2) : WP l G yX12_turn cX12_turn 2 (some .int) d 0 0 Q 0 0 22 [] [.int s0] Γ σ := by
  unfold fX12_turn_b22 at h
  obtain rfl := Option.some.inj h
  exact r_ireturn dX12_turn_22 rfl hQ (Nat.le_refl _) (Nat.le_refl _)
theorem kX12_turn {l : Launch} {G : gg} {Γ : ly} {σ : mm} (d : Nat) (hdd : 5 ≤ d) (x0 : Nat) (x1 : Int32) (t0 : tyOK Γ (0, 11) x0) (r : (Int32 × mm)) (h : fX12_turn Γ.2 σ x0 x1 = some r) : CT l G yX12_turn cX12_turn 2 (some .int) d 0 0 [.ref (G.2.1 x0), .int x1] Γ σ (PP (some (.int r.1)) Γ r.2) := by
  refine CT.ofWP (by decide) (Nat.le_of_ble_eq_true rfl) ?_
  have hQ : PP (some (.int r.1)) Γ r.2 (some (.int r.1)) Γ r.2 := PP.self
  generalize PP (some (.int r.1)) Γ r.2 = Q at hQ ⊢
  show WP l G yX12_turn cX12_turn 2 (some .int) d 0 0 Q 0 0 0 [(0, .ref (G.2.1 x0)), (1, .int x1)] [] Γ σ
  unfold fX12_turn at h
  refine r_aload_n 0 dX12_turn_0 rfl ?_
  refine q_getR (e9 := (0, 4)) dX12_turn_1 fd_X12_19 t0 rfl h (fun r1 tr1 h => ?_)
  refine r_iload_n 1 dX12_turn_4 rfl ?_
  obtain ⟨v2, ev2, h⟩ := bd0_some h
  refine q_cVI [.int x1] dX12_turn_5 cv_X12_144 (ci := 4) rfl rfl tr1 rfl rfl (Nat.le_of_ble_eq_true rfl) (by omega) (kX4_hasPerson (d - 1) (by omega) r1 x1 tr1 v2 ev2) ?_
  refine r_if_eq 21 dX12_turn_8 (by decide) h (fun _ h => ?_) (fun _ h => ?_)
  · refine r_iconst (v := -1) dX12_turn_21 (by decide) ?_
    refine r_pick [] rfl ?_
    exact tX12_turn_b22 hdd σ (-1 : Int32)  _ h hQ
  · refine r_aload_n 0 dX12_turn_11 rfl ?_
    refine r_iconst (v := 0) dX12_turn_12 (by decide) ?_
    refine r_iload_n 1 dX12_turn_13 rfl ?_
    refine r_iconst (v := 0) dX12_turn_14 (by decide) ?_
    obtain ⟨v3, τ4, ev3, h⟩ := bd2_some h
    refine q_cVI [.int (0 : Int32), .int x1, .int (0 : Int32)] dX12_turn_15 cv_X12_264 (ci := 11) rfl rfl t0 rfl rfl (Nat.le_of_ble_eq_true rfl) (by omega) (kX12_attempt (d - 1) (by omega) x0 (0 : Int32) x1 (0 : Int32) t0 (v3, τ4) ev3) ?_
    refine r_goto 22 dX12_turn_18 (by decide) ?_
    refine r_pick [] rfl ?_
    exact tX12_turn_b22 hdd τ4 v3  _ h hQ
theorem tX12_wake_b22 {l : Launch} {G : gg} {Γ : ly} {d : Nat} {Q : Option Value → ly → mm → Prop} (hdd : 5 ≤ d) (σ : mm)  (s0 : Int32)   (r : (Int32 × mm)) (h : fX12_wake_b22 Γ.2 σ s0 = some r) (hQ : Q (some (.int r.1)) Γ r.2) : WP l G yX12_wake cX12_wake 2 (some .int) d 0 0 Q 0 0 22 [] [.int s0] Γ σ := by
  unfold fX12_wake_b22 at h
  obtain rfl := Option.some.inj h
  exact r_ireturn dX12_wake_22 rfl hQ (Nat.le_refl _) (Nat.le_refl _)
theorem kX12_wake {l : Launch} {G : gg} {Γ : ly} {σ : mm} (d : Nat) (hdd : 5 ≤ d) (x0 : Nat) (x1 : Int32) (t0 : tyOK Γ (0, 11) x0) (r : (Int32 × mm)) (h : fX12_wake Γ.2 σ x0 x1 = some r) : CT l G yX12_wake cX12_wake 2 (some .int) d 0 0 [.ref (G.2.1 x0), .int x1] Γ σ (PP (some (.int r.1)) Γ r.2) := by
  refine CT.ofWP (by decide) (Nat.le_of_ble_eq_true rfl) ?_
  have hQ : PP (some (.int r.1)) Γ r.2 (some (.int r.1)) Γ r.2 := PP.self
  generalize PP (some (.int r.1)) Γ r.2 = Q at hQ ⊢
  show WP l G yX12_wake cX12_wake 2 (some .int) d 0 0 Q 0 0 0 [(0, .ref (G.2.1 x0)), (1, .int x1)] [] Γ σ
  unfold fX12_wake at h
  refine r_aload_n 0 dX12_wake_0 rfl ?_
  refine q_getR (e9 := (0, 4)) dX12_wake_1 fd_X12_19 t0 rfl h (fun r1 tr1 h => ?_)
  refine r_iload_n 1 dX12_wake_4 rfl ?_
  obtain ⟨v2, ev2, h⟩ := bd0_some h
  refine q_cVI [.int x1] dX12_wake_5 cv_X12_144 (ci := 4) rfl rfl tr1 rfl rfl (Nat.le_of_ble_eq_true rfl) (by omega) (kX4_hasPerson (d - 1) (by omega) r1 x1 tr1 v2 ev2) ?_
  refine r_if_eq 21 dX12_wake_8 (by decide) h (fun _ h => ?_) (fun _ h => ?_)
  · refine r_iconst (v := -1) dX12_wake_21 (by decide) ?_
    refine r_pick [] rfl ?_
    exact tX12_wake_b22 hdd σ (-1 : Int32)  _ h hQ
  · refine r_aload_n 0 dX12_wake_11 rfl ?_
    refine r_iconst (v := 1) dX12_wake_12 (by decide) ?_
    refine r_iload_n 1 dX12_wake_13 rfl ?_
    refine r_iconst (v := 0) dX12_wake_14 (by decide) ?_
    obtain ⟨v3, τ4, ev3, h⟩ := bd2_some h
    refine q_cVI [.int (1 : Int32), .int x1, .int (0 : Int32)] dX12_wake_15 cv_X12_264 (ci := 11) rfl rfl t0 rfl rfl (Nat.le_of_ble_eq_true rfl) (by omega) (kX12_attempt (d - 1) (by omega) x0 (1 : Int32) x1 (0 : Int32) t0 (v3, τ4) ev3) ?_
    refine r_goto 22 dX12_wake_18 (by decide) ?_
    refine r_pick [] rfl ?_
    exact tX12_wake_b22 hdd τ4 v3  _ h hQ
theorem tX12_woo_b32 {l : Launch} {G : gg} {Γ : ly} {d : Nat} {Q : Option Value → ly → mm → Prop} (hdd : 5 ≤ d) (σ : mm)  (s0 : Int32)   (r : (Int32 × mm)) (h : fX12_woo_b32 Γ.2 σ s0 = some r) (hQ : Q (some (.int r.1)) Γ r.2) : WP l G yX12_woo cX12_woo 3 (some .int) d 0 0 Q 0 0 32 [] [.int s0] Γ σ := by
  unfold fX12_woo_b32 at h
  obtain rfl := Option.some.inj h
  exact r_ireturn dX12_woo_32 rfl hQ (Nat.le_refl _) (Nat.le_refl _)
theorem tX12_woo_b31 {l : Launch} {G : gg} {Γ : ly} {d : Nat} {Q : Option Value → ly → mm → Prop} (hdd : 5 ≤ d) (σ : mm)     (r : (Int32 × mm)) (h : fX12_woo_b31 Γ.2 σ  = some r) (hQ : Q (some (.int r.1)) Γ r.2) : WP l G yX12_woo cX12_woo 3 (some .int) d 0 0 Q 0 0 31 [] [] Γ σ := by
  unfold fX12_woo_b31 at h
  refine r_iconst (v := -1) dX12_woo_31 (by decide) ?_
  exact tX12_woo_b32 hdd σ (-1 : Int32)  _ h hQ
theorem kX12_woo {l : Launch} {G : gg} {Γ : ly} {σ : mm} (d : Nat) (hdd : 5 ≤ d) (x0 : Nat) (x1 : Int32) (x2 : Int32) (t0 : tyOK Γ (0, 11) x0) (r : (Int32 × mm)) (h : fX12_woo Γ.2 σ x0 x1 x2 = some r) : CT l G yX12_woo cX12_woo 3 (some .int) d 0 0 [.ref (G.2.1 x0), .int x1, .int x2] Γ σ (PP (some (.int r.1)) Γ r.2) := by
  refine CT.ofWP (by decide) (Nat.le_of_ble_eq_true rfl) ?_
  have hQ : PP (some (.int r.1)) Γ r.2 (some (.int r.1)) Γ r.2 := PP.self
  generalize PP (some (.int r.1)) Γ r.2 = Q at hQ ⊢
  show WP l G yX12_woo cX12_woo 3 (some .int) d 0 0 Q 0 0 0 [(0, .ref (G.2.1 x0)), (1, .int x1), (2, .int x2)] [] Γ σ
  unfold fX12_woo at h
  refine r_aload_n 0 dX12_woo_0 rfl ?_
  refine q_getR (e9 := (0, 4)) dX12_woo_1 fd_X12_19 t0 rfl h (fun r1 tr1 h => ?_)
  refine r_iload_n 1 dX12_woo_4 rfl ?_
  obtain ⟨v2, ev2, h⟩ := bd0_some h
  refine q_cVI [.int x1] dX12_woo_5 cv_X12_144 (ci := 4) rfl rfl tr1 rfl rfl (Nat.le_of_ble_eq_true rfl) (by omega) (kX4_hasPerson (d - 1) (by omega) r1 x1 tr1 v2 ev2) ?_
  refine r_if_eq 31 dX12_woo_8 (by decide) h (fun _ h => ?_) (fun _ h => ?_)
  · refine r_pick [] rfl ?_
    exact tX12_woo_b31 hdd σ  _ h hQ
  · refine r_iconst (v := 1) dX12_woo_11 (by decide) ?_
    refine r_bipush (v := 20) dX12_woo_12 (by decide) ?_
    refine r_iload_n 2 dX12_woo_14 rfl ?_
    obtain ⟨v3, ev3, h⟩ := bd0_some h
    refine q_cSI [.int (1 : Int32), .int (20 : Int32), .int x2] dX12_woo_15 cs_X12_268 rfl rfl (Nat.le_of_ble_eq_true rfl) (by omega) (kX12_isFrom (d - 1) (by omega) (1 : Int32) (20 : Int32) x2  v3 ev3) ?_
    refine r_if_eq 31 dX12_woo_18 (by decide) h (fun _ h => ?_) (fun _ h => ?_)
    · refine r_pick [] rfl ?_
      exact tX12_woo_b31 hdd σ  _ h hQ
    · refine r_aload_n 0 dX12_woo_21 rfl ?_
      refine r_iconst (v := 2) dX12_woo_22 (by decide) ?_
      refine r_iload_n 1 dX12_woo_23 rfl ?_
      refine r_iload_n 2 dX12_woo_24 rfl ?_
      obtain ⟨v4, τ5, ev4, h⟩ := bd2_some h
      refine q_cVI [.int (2 : Int32), .int x1, .int x2] dX12_woo_25 cv_X12_264 (ci := 11) rfl rfl t0 rfl rfl (Nat.le_of_ble_eq_true rfl) (by omega) (kX12_attempt (d - 1) (by omega) x0 (2 : Int32) x1 x2 t0 (v4, τ5) ev4) ?_
      refine r_goto 32 dX12_woo_28 (by decide) ?_
      refine r_pick [] rfl ?_
      exact tX12_woo_b32 hdd τ5 v4  _ h hQ
theorem tX12_tilt_b31 {l : Launch} {G : gg} {Γ : ly} {d : Nat} {Q : Option Value → ly → mm → Prop} (hdd : 5 ≤ d) (σ : mm)  (s0 : Int32)   (r : (Int32 × mm)) (h : fX12_tilt_b31 Γ.2 σ s0 = some r) (hQ : Q (some (.int r.1)) Γ r.2) : WP l G yX12_tilt cX12_tilt 3 (some .int) d 0 0 Q 0 0 31 [] [.int s0] Γ σ := by
  unfold fX12_tilt_b31 at h
  obtain rfl := Option.some.inj h
  exact r_ireturn dX12_tilt_31 rfl hQ (Nat.le_refl _) (Nat.le_refl _)
theorem tX12_tilt_b30 {l : Launch} {G : gg} {Γ : ly} {d : Nat} {Q : Option Value → ly → mm → Prop} (hdd : 5 ≤ d) (σ : mm)     (r : (Int32 × mm)) (h : fX12_tilt_b30 Γ.2 σ  = some r) (hQ : Q (some (.int r.1)) Γ r.2) : WP l G yX12_tilt cX12_tilt 3 (some .int) d 0 0 Q 0 0 30 [] [] Γ σ := by
  unfold fX12_tilt_b30 at h
  refine r_iconst (v := -1) dX12_tilt_30 (by decide) ?_
  exact tX12_tilt_b31 hdd σ (-1 : Int32)  _ h hQ
theorem kX12_tilt {l : Launch} {G : gg} {Γ : ly} {σ : mm} (d : Nat) (hdd : 5 ≤ d) (x0 : Nat) (x1 : Int32) (x2 : Int32) (t0 : tyOK Γ (0, 11) x0) (r : (Int32 × mm)) (h : fX12_tilt Γ.2 σ x0 x1 x2 = some r) : CT l G yX12_tilt cX12_tilt 3 (some .int) d 0 0 [.ref (G.2.1 x0), .int x1, .int x2] Γ σ (PP (some (.int r.1)) Γ r.2) := by
  refine CT.ofWP (by decide) (Nat.le_of_ble_eq_true rfl) ?_
  have hQ : PP (some (.int r.1)) Γ r.2 (some (.int r.1)) Γ r.2 := PP.self
  generalize PP (some (.int r.1)) Γ r.2 = Q at hQ ⊢
  show WP l G yX12_tilt cX12_tilt 3 (some .int) d 0 0 Q 0 0 0 [(0, .ref (G.2.1 x0)), (1, .int x1), (2, .int x2)] [] Γ σ
  unfold fX12_tilt at h
  refine r_aload_n 0 dX12_tilt_0 rfl ?_
  refine q_getR (e9 := (0, 4)) dX12_tilt_1 fd_X12_19 t0 rfl h (fun r1 tr1 h => ?_)
  refine r_iload_n 1 dX12_tilt_4 rfl ?_
  obtain ⟨v2, ev2, h⟩ := bd0_some h
  refine q_cVI [.int x1] dX12_tilt_5 cv_X12_181 (ci := 4) rfl rfl tr1 rfl rfl (Nat.le_of_ble_eq_true rfl) (by omega) (kX4_hasGlass (d - 1) (by omega) r1 x1 tr1 v2 ev2) ?_
  refine r_if_eq 30 dX12_tilt_8 (by decide) h (fun _ h => ?_) (fun _ h => ?_)
  · refine r_pick [] rfl ?_
    exact tX12_tilt_b30 hdd σ  _ h hQ
  · refine r_iconst (v := 0) dX12_tilt_11 (by decide) ?_
    refine r_iconst (v := 2) dX12_tilt_12 (by decide) ?_
    refine r_iload_n 2 dX12_tilt_13 rfl ?_
    obtain ⟨v3, ev3, h⟩ := bd0_some h
    refine q_cSI [.int (0 : Int32), .int (2 : Int32), .int x2] dX12_tilt_14 cs_X12_268 rfl rfl (Nat.le_of_ble_eq_true rfl) (by omega) (kX12_isFrom (d - 1) (by omega) (0 : Int32) (2 : Int32) x2  v3 ev3) ?_
    refine r_if_eq 30 dX12_tilt_17 (by decide) h (fun _ h => ?_) (fun _ h => ?_)
    · refine r_pick [] rfl ?_
      exact tX12_tilt_b30 hdd σ  _ h hQ
    · refine r_aload_n 0 dX12_tilt_20 rfl ?_
      refine r_iconst (v := 3) dX12_tilt_21 (by decide) ?_
      refine r_iload_n 1 dX12_tilt_22 rfl ?_
      refine r_iload_n 2 dX12_tilt_23 rfl ?_
      obtain ⟨v4, τ5, ev4, h⟩ := bd2_some h
      refine q_cVI [.int (3 : Int32), .int x1, .int x2] dX12_tilt_24 cv_X12_264 (ci := 11) rfl rfl t0 rfl rfl (Nat.le_of_ble_eq_true rfl) (by omega) (kX12_attempt (d - 1) (by omega) x0 (3 : Int32) x1 x2 t0 (v4, τ5) ev4) ?_
      refine r_goto 31 dX12_tilt_27 (by decide) ?_
      refine r_pick [] rfl ?_
      exact tX12_tilt_b31 hdd τ5 v4  _ h hQ
theorem tX12_widen_b32 {l : Launch} {G : gg} {Γ : ly} {d : Nat} {Q : Option Value → ly → mm → Prop} (hdd : 5 ≤ d) (σ : mm)  (s0 : Int32)   (r : (Int32 × mm)) (h : fX12_widen_b32 Γ.2 σ s0 = some r) (hQ : Q (some (.int r.1)) Γ r.2) : WP l G yX12_widen cX12_widen 3 (some .int) d 0 0 Q 0 0 32 [] [.int s0] Γ σ := by
  unfold fX12_widen_b32 at h
  obtain rfl := Option.some.inj h
  exact r_ireturn dX12_widen_32 rfl hQ (Nat.le_refl _) (Nat.le_refl _)
theorem tX12_widen_b31 {l : Launch} {G : gg} {Γ : ly} {d : Nat} {Q : Option Value → ly → mm → Prop} (hdd : 5 ≤ d) (σ : mm)     (r : (Int32 × mm)) (h : fX12_widen_b31 Γ.2 σ  = some r) (hQ : Q (some (.int r.1)) Γ r.2) : WP l G yX12_widen cX12_widen 3 (some .int) d 0 0 Q 0 0 31 [] [] Γ σ := by
  unfold fX12_widen_b31 at h
  refine r_iconst (v := -1) dX12_widen_31 (by decide) ?_
  exact tX12_widen_b32 hdd σ (-1 : Int32)  _ h hQ
theorem kX12_widen {l : Launch} {G : gg} {Γ : ly} {σ : mm} (d : Nat) (hdd : 5 ≤ d) (x0 : Nat) (x1 : Int32) (x2 : Int32) (t0 : tyOK Γ (0, 11) x0) (r : (Int32 × mm)) (h : fX12_widen Γ.2 σ x0 x1 x2 = some r) : CT l G yX12_widen cX12_widen 3 (some .int) d 0 0 [.ref (G.2.1 x0), .int x1, .int x2] Γ σ (PP (some (.int r.1)) Γ r.2) := by
  refine CT.ofWP (by decide) (Nat.le_of_ble_eq_true rfl) ?_
  have hQ : PP (some (.int r.1)) Γ r.2 (some (.int r.1)) Γ r.2 := PP.self
  generalize PP (some (.int r.1)) Γ r.2 = Q at hQ ⊢
  show WP l G yX12_widen cX12_widen 3 (some .int) d 0 0 Q 0 0 0 [(0, .ref (G.2.1 x0)), (1, .int x1), (2, .int x2)] [] Γ σ
  unfold fX12_widen at h
  refine r_aload_n 0 dX12_widen_0 rfl ?_
  refine q_getR (e9 := (0, 4)) dX12_widen_1 fd_X12_19 t0 rfl h (fun r1 tr1 h => ?_)
  refine r_iload_n 1 dX12_widen_4 rfl ?_
  obtain ⟨v2, ev2, h⟩ := bd0_some h
  refine q_cVI [.int x1] dX12_widen_5 cv_X12_181 (ci := 4) rfl rfl tr1 rfl rfl (Nat.le_of_ble_eq_true rfl) (by omega) (kX4_hasGlass (d - 1) (by omega) r1 x1 tr1 v2 ev2) ?_
  refine r_if_eq 31 dX12_widen_8 (by decide) h (fun _ h => ?_) (fun _ h => ?_)
  · refine r_pick [] rfl ?_
    exact tX12_widen_b31 hdd σ  _ h hQ
  · refine r_iconst (v := 1) dX12_widen_11 (by decide) ?_
    refine r_bipush (v := 8) dX12_widen_12 (by decide) ?_
    refine r_iload_n 2 dX12_widen_14 rfl ?_
    obtain ⟨v3, ev3, h⟩ := bd0_some h
    refine q_cSI [.int (1 : Int32), .int (8 : Int32), .int x2] dX12_widen_15 cs_X12_268 rfl rfl (Nat.le_of_ble_eq_true rfl) (by omega) (kX12_isFrom (d - 1) (by omega) (1 : Int32) (8 : Int32) x2  v3 ev3) ?_
    refine r_if_eq 31 dX12_widen_18 (by decide) h (fun _ h => ?_) (fun _ h => ?_)
    · refine r_pick [] rfl ?_
      exact tX12_widen_b31 hdd σ  _ h hQ
    · refine r_aload_n 0 dX12_widen_21 rfl ?_
      refine r_iconst (v := 4) dX12_widen_22 (by decide) ?_
      refine r_iload_n 1 dX12_widen_23 rfl ?_
      refine r_iload_n 2 dX12_widen_24 rfl ?_
      obtain ⟨v4, τ5, ev4, h⟩ := bd2_some h
      refine q_cVI [.int (4 : Int32), .int x1, .int x2] dX12_widen_25 cv_X12_264 (ci := 11) rfl rfl t0 rfl rfl (Nat.le_of_ble_eq_true rfl) (by omega) (kX12_attempt (d - 1) (by omega) x0 (4 : Int32) x1 x2 t0 (v4, τ5) ev4) ?_
      refine r_goto 32 dX12_widen_28 (by decide) ?_
      refine r_pick [] rfl ?_
      exact tX12_widen_b32 hdd τ5 v4  _ h hQ
theorem tX12_spill_b33 {l : Launch} {G : gg} {Γ : ly} {d : Nat} {Q : Option Value → ly → mm → Prop} (hdd : 5 ≤ d) (σ : mm)  (s0 : Int32)   (r : (Int32 × mm)) (h : fX12_spill_b33 Γ.2 σ s0 = some r) (hQ : Q (some (.int r.1)) Γ r.2) : WP l G yX12_spill cX12_spill 3 (some .int) d 0 0 Q 0 0 33 [] [.int s0] Γ σ := by
  unfold fX12_spill_b33 at h
  obtain rfl := Option.some.inj h
  exact r_ireturn dX12_spill_33 rfl hQ (Nat.le_refl _) (Nat.le_refl _)
theorem tX12_spill_b32 {l : Launch} {G : gg} {Γ : ly} {d : Nat} {Q : Option Value → ly → mm → Prop} (hdd : 5 ≤ d) (σ : mm)     (r : (Int32 × mm)) (h : fX12_spill_b32 Γ.2 σ  = some r) (hQ : Q (some (.int r.1)) Γ r.2) : WP l G yX12_spill cX12_spill 3 (some .int) d 0 0 Q 0 0 32 [] [] Γ σ := by
  unfold fX12_spill_b32 at h
  refine r_iconst (v := -1) dX12_spill_32 (by decide) ?_
  exact tX12_spill_b33 hdd σ (-1 : Int32)  _ h hQ
theorem kX12_spill {l : Launch} {G : gg} {Γ : ly} {σ : mm} (d : Nat) (hdd : 5 ≤ d) (x0 : Nat) (x1 : Int32) (x2 : Int32) (t0 : tyOK Γ (0, 11) x0) (r : (Int32 × mm)) (h : fX12_spill Γ.2 σ x0 x1 x2 = some r) : CT l G yX12_spill cX12_spill 3 (some .int) d 0 0 [.ref (G.2.1 x0), .int x1, .int x2] Γ σ (PP (some (.int r.1)) Γ r.2) := by
  refine CT.ofWP (by decide) (Nat.le_of_ble_eq_true rfl) ?_
  have hQ : PP (some (.int r.1)) Γ r.2 (some (.int r.1)) Γ r.2 := PP.self
  generalize PP (some (.int r.1)) Γ r.2 = Q at hQ ⊢
  show WP l G yX12_spill cX12_spill 3 (some .int) d 0 0 Q 0 0 0 [(0, .ref (G.2.1 x0)), (1, .int x1), (2, .int x2)] [] Γ σ
  unfold fX12_spill at h
  refine r_aload_n 0 dX12_spill_0 rfl ?_
  refine q_getR (e9 := (0, 4)) dX12_spill_1 fd_X12_19 t0 rfl h (fun r1 tr1 h => ?_)
  refine r_iload_n 1 dX12_spill_4 rfl ?_
  obtain ⟨v2, ev2, h⟩ := bd0_some h
  refine q_cVI [.int x1] dX12_spill_5 cv_X12_181 (ci := 4) rfl rfl tr1 rfl rfl (Nat.le_of_ble_eq_true rfl) (by omega) (kX4_hasGlass (d - 1) (by omega) r1 x1 tr1 v2 ev2) ?_
  refine r_if_eq 32 dX12_spill_8 (by decide) h (fun _ h => ?_) (fun _ h => ?_)
  · refine r_pick [] rfl ?_
    exact tX12_spill_b32 hdd σ  _ h hQ
  · refine r_iconst (v := 1) dX12_spill_11 (by decide) ?_
    refine r_sipush (v := 250) dX12_spill_12 (by decide) ?_
    refine r_iload_n 2 dX12_spill_15 rfl ?_
    obtain ⟨v3, ev3, h⟩ := bd0_some h
    refine q_cSI [.int (1 : Int32), .int (250 : Int32), .int x2] dX12_spill_16 cs_X12_268 rfl rfl (Nat.le_of_ble_eq_true rfl) (by omega) (kX12_isFrom (d - 1) (by omega) (1 : Int32) (250 : Int32) x2  v3 ev3) ?_
    refine r_if_eq 32 dX12_spill_19 (by decide) h (fun _ h => ?_) (fun _ h => ?_)
    · refine r_pick [] rfl ?_
      exact tX12_spill_b32 hdd σ  _ h hQ
    · refine r_aload_n 0 dX12_spill_22 rfl ?_
      refine r_iconst (v := 5) dX12_spill_23 (by decide) ?_
      refine r_iload_n 1 dX12_spill_24 rfl ?_
      refine r_iload_n 2 dX12_spill_25 rfl ?_
      obtain ⟨v4, τ5, ev4, h⟩ := bd2_some h
      refine q_cVI [.int (5 : Int32), .int x1, .int x2] dX12_spill_26 cv_X12_264 (ci := 11) rfl rfl t0 rfl rfl (Nat.le_of_ble_eq_true rfl) (by omega) (kX12_attempt (d - 1) (by omega) x0 (5 : Int32) x1 x2 t0 (v4, τ5) ev4) ?_
      refine r_goto 33 dX12_spill_29 (by decide) ?_
      refine r_pick [] rfl ?_
      exact tX12_spill_b33 hdd τ5 v4  _ h hQ
theorem tX12_hours_b44 {l : Launch} {G : gg} {Γ : ly} {d : Nat} {Q : Option Value → ly → mm → Prop} (hdd : 6 ≤ d) (σ : mm) (x2 : Int32)    (r : (Int32 × mm)) (h : fX12_hours_b44 Γ.2 σ x2 = some r) (hQ : Q (some (.int r.1)) Γ r.2) : WP l G yX12_hours cX12_hours 3 (some .int) d 0 0 Q 0 0 44 [(2, .int x2)] [] Γ σ := by
  unfold fX12_hours_b44 at h
  refine r_iload_n 0 dX12_hours_44 rfl ?_
  obtain rfl := Option.some.inj h
  exact r_ireturn dX12_hours_45 rfl hQ (Nat.le_refl _) (Nat.le_refl _)
theorem kX12_hours {l : Launch} {G : gg} {Γ : ly} {σ : mm} (d : Nat) (hdd : 6 ≤ d) (x0 : Nat) (x1 : Int32) (t0 : tyOK Γ (0, 11) x0) (r : (Int32 × mm)) (h : fX12_hours Γ.2 σ x0 x1 = some r) : CT l G yX12_hours cX12_hours 3 (some .int) d 0 0 [.ref (G.2.1 x0), .int x1] Γ σ (PP (some (.int r.1)) Γ r.2) := by
  refine CT.ofWP (by decide) (Nat.le_of_ble_eq_true rfl) ?_
  have hQ : PP (some (.int r.1)) Γ r.2 (some (.int r.1)) Γ r.2 := PP.self
  generalize PP (some (.int r.1)) Γ r.2 = Q at hQ ⊢
  show WP l G yX12_hours cX12_hours 3 (some .int) d 0 0 Q 0 0 0 [(0, .ref (G.2.1 x0)), (1, .int x1)] [] Γ σ
  unfold fX12_hours at h
  refine r_iconst (v := 1) dX12_hours_0 (by decide) ?_
  refine r_bipush (v := 60) dX12_hours_1 (by decide) ?_
  refine r_iload_n 1 dX12_hours_3 rfl ?_
  obtain ⟨v1, ev1, h⟩ := bd0_some h
  refine q_cSI [.int (1 : Int32), .int (60 : Int32), .int x1] dX12_hours_4 cs_X12_268 rfl rfl (Nat.le_of_ble_eq_true rfl) (by omega) (kX12_isFrom (d - 1) (by omega) (1 : Int32) (60 : Int32) x1  v1 ev1) ?_
  refine r_if_ne 12 dX12_hours_7 (by decide) h (fun _ h => ?_) (fun _ h => ?_)
  · refine r_aload_n 0 dX12_hours_12 rfl ?_
    refine q_getR (e9 := (0, 3)) dX12_hours_13 fd_X12_40 t0 rfl h (fun r2 tr2 h => ?_)
    refine r_iload_n 1 dX12_hours_16 rfl ?_
    obtain ⟨v3, ev3, h⟩ := bd0_some h
    refine q_cVI [.int x1] dX12_hours_17 cv_X12_283 (ci := 3) rfl rfl tr2 rfl rfl (Nat.le_of_ble_eq_true rfl) (by omega) (kX3_hoursOf (d - 1) (by omega) r2 x1 tr2 v3 ev3) ?_
    refine r_istore_n (lv' := [(2, .int v3), (0, .ref (G.2.1 x0)), (1, .int x1)]) dX12_hours_20 (by decide) rfl ?_
    refine r_iload_n 0 dX12_hours_21 rfl ?_
    refine r_if_le 44 dX12_hours_22 (by decide) h (fun _ h => ?_) (fun _ h => ?_)
    · refine r_pick [0] rfl ?_
      exact tX12_hours_b44 hdd σ v3  _ h hQ
    · refine r_aload_n 1 dX12_hours_25 rfl ?_
      refine q_getR (e9 := (0, 9)) dX12_hours_26 fd_X12_50 t0 rfl h (fun r4 tr4 h => ?_)
      refine r_aload_n 1 dX12_hours_29 rfl ?_
      refine q_getR (e9 := (0, 3)) dX12_hours_30 fd_X12_40 t0 rfl h (fun r5 tr5 h => ?_)
      obtain ⟨τ6, eτ6, h⟩ := bd0_some h
      refine q_cVV [.ref (G.2.1 r5)] dX12_hours_33 cv_X12_275 (ci := 9) rfl rfl tr4 rfl rfl (Nat.le_of_ble_eq_true rfl) (by omega) (kX9_keep (d - 1) (by omega) r4 r5 tr4 tr5 τ6 eτ6) ?_
      refine r_aload_n 1 dX12_hours_36 rfl ?_
      refine q_getR (e9 := (0, 3)) dX12_hours_37 fd_X12_40 t0 rfl h (fun r7 tr7 h => ?_)
      refine r_iload_n 0 dX12_hours_40 rfl ?_
      obtain ⟨τ8, eτ8, h⟩ := bd0_some h
      refine q_cVV [.int v3] dX12_hours_41 cv_X12_286 (ci := 3) rfl rfl tr7 rfl rfl (Nat.le_of_ble_eq_true rfl) (by omega) (kX3_passHours (d - 1) (by omega) r7 v3 tr7 τ8 eτ8) ?_
      refine r_pick [0] rfl ?_
      exact tX12_hours_b44 hdd τ8 v3  _ h hQ
  · refine r_iconst (v := -1) dX12_hours_10 (by decide) ?_
    obtain rfl := Option.some.inj h
    exact r_ireturn dX12_hours_11 rfl hQ (Nat.le_refl _) (Nat.le_refl _)
theorem kX12_undo {l : Launch} {G : gg} {Γ : ly} {σ : mm} (d : Nat) (hdd : 3 ≤ d) (x0 : Nat) (t0 : tyOK Γ (0, 11) x0) (r : (Int32 × mm)) (h : fX12_undo Γ.2 σ x0 = some r) : CT l G yX12_undo cX12_undo 1 (some .int) d 0 0 [.ref (G.2.1 x0)] Γ σ (PP (some (.int r.1)) Γ r.2) := by
  refine CT.ofWP (by decide) (Nat.le_of_ble_eq_true rfl) ?_
  have hQ : PP (some (.int r.1)) Γ r.2 (some (.int r.1)) Γ r.2 := PP.self
  generalize PP (some (.int r.1)) Γ r.2 = Q at hQ ⊢
  show WP l G yX12_undo cX12_undo 1 (some .int) d 0 0 Q 0 0 0 [(0, .ref (G.2.1 x0))] [] Γ σ
  unfold fX12_undo at h
  refine r_aload_n 0 dX12_undo_0 rfl ?_
  refine q_getR (e9 := (0, 9)) dX12_undo_1 fd_X12_50 t0 rfl h (fun r1 tr1 h => ?_)
  refine r_aload_n 0 dX12_undo_4 rfl ?_
  refine q_getR (e9 := (0, 3)) dX12_undo_5 fd_X12_40 t0 rfl h (fun r2 tr2 h => ?_)
  obtain ⟨v3, τ4, ev3, h⟩ := bd2_some h
  refine q_cVI [.ref (G.2.1 r2)] dX12_undo_8 cv_X12_289 (ci := 9) rfl rfl tr1 rfl rfl (Nat.le_of_ble_eq_true rfl) (by omega) (kX9_takeBack (d - 1) (by omega) r1 r2 tr1 tr2 (v3, τ4) ev3) ?_
  obtain rfl := Option.some.inj h
  exact r_ireturn dX12_undo_11 rfl hQ (Nat.le_refl _) (Nat.le_refl _)
