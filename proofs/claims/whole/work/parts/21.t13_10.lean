/-! the walks, 10 -/
theorem tX13_banns_b191 {l : Launch} {G : gg} {Γ : ly} {d : Nat} {Q : Option Value → ly → mm → Prop} (hdd : 102 ≤ d) (σ : mm) (x0 : Nat)  (t0 : tyOK Γ (0, 12) x0)  (r : (Int32 × mm)) (h : fX13_banns_b191 Γ.2 σ x0 = some r) (hQ : Q (some (.int r.1)) Γ r.2) : WP l G yX13_banns cX13_banns 3 (some .int) d 0 0 Q 0 0 191 [(0, .ref (G.2.1 x0))] [] Γ σ := by
  unfold fX13_banns_b191 at h
  refine r_aload_n 0 dX13_banns_191 rfl ?_
  refine r_getI dX13_banns_192 fd_X13_361 t0 ?_
  obtain rfl := Option.some.inj h
  exact r_ireturn dX13_banns_195 rfl hQ (Nat.le_refl _) (Nat.le_refl _)
theorem kX13_banns {l : Launch} {G : gg} {Γ : ly} {σ : mm} (d : Nat) (hdd : 102 ≤ d) (x0 : Nat) (x1 : Int32) (t0 : tyOK Γ (0, 12) x0) (r : (Int32 × mm)) (h : fX13_banns Γ.2 σ x0 x1 = some r) : CT l G yX13_banns cX13_banns 3 (some .int) d 0 0 [.ref (G.2.1 x0), .int x1] Γ σ (PP (some (.int r.1)) Γ r.2) := by
  refine CT.ofWP (by decide) (Nat.le_of_ble_eq_true rfl) ?_
  have hQ : PP (some (.int r.1)) Γ r.2 (some (.int r.1)) Γ r.2 := PP.self
  generalize PP (some (.int r.1)) Γ r.2 = Q at hQ ⊢
  show WP l G yX13_banns cX13_banns 3 (some .int) d 0 0 Q 0 0 0 [(0, .ref (G.2.1 x0)), (1, .int x1)] [] Γ σ
  unfold fX13_banns at h
  refine r_aload_n 0 dX13_banns_0 rfl ?_
  refine r_iconst (v := 0) dX13_banns_1 (by decide) ?_
  refine q_putI dX13_banns_2 fd_X13_1 t0 h (fun τ1 h => ?_)
  refine r_aload_n 0 dX13_banns_5 rfl ?_
  refine r_iload_n 1 dX13_banns_6 rfl ?_
  obtain ⟨v2, ev2, h⟩ := bd0_some h
  refine q_cVI [.int x1] dX13_banns_7 cv_X13_258 (ci := 12) rfl rfl t0 rfl rfl (Nat.le_of_ble_eq_true rfl) (by omega) (kX13_isGlass (d - 1) (by omega) x0 x1 t0 v2 ev2) ?_
  refine r_if_ne 15 dX13_banns_10 (by decide) h (fun _ h => ?_) (fun _ h => ?_)
  · refine r_aload_n 0 dX13_banns_15 rfl ?_
    refine r_iconst (v := 0) dX13_banns_16 (by decide) ?_
    refine q_putI dX13_banns_17 fd_X13_361 t0 h (fun τ3 h => ?_)
    refine r_aload_n 0 dX13_banns_20 rfl ?_
    refine r_aload_n 0 dX13_banns_21 rfl ?_
    refine q_getR (e9 := (4, 0)) dX13_banns_22 fd_X13_113 t0 rfl h (fun r4 tr4 h => ?_)
    refine r_aload_n 0 dX13_banns_25 rfl ?_
    refine q_getR (e9 := (1, 0)) dX13_banns_26 fd_X13_98 t0 rfl h (fun r5 tr5 h => ?_)
    refine r_bipush (v := 56) dX13_banns_29 (by decide) ?_
    refine r_iload_n 1 dX13_banns_31 rfl ?_
    refine r_iadd dX13_banns_32 ?_
    refine q_iald dX13_banns_33 tr5 h (fun v6 h => ?_)
    refine q_lald dX13_banns_34 tr4 h (fun v7 h => ?_)
    obtain ⟨τ8, eτ8, h⟩ := bd0_some h
    refine q_cVV [.long v7] dX13_banns_35 cv_X13_364 (ci := 12) rfl rfl t0 rfl rfl (Nat.le_of_ble_eq_true rfl) (by omega) (kgX13_writeWord 100 (d - 1) (by omega) τ3 x0 v7 t0 τ8 eτ8) ?_
    refine r_aload_n 0 dX13_banns_38 rfl ?_
    refine r_bipush (v := 32) dX13_banns_39 (by decide) ?_
    obtain ⟨τ9, eτ9, h⟩ := bd0_some h
    refine q_cVV [.int (32 : Int32)] dX13_banns_41 cv_X13_368 (ci := 12) rfl rfl t0 rfl rfl (Nat.le_of_ble_eq_true rfl) (by omega) (kX13_write (d - 1) (by omega) x0 (32 : Int32) t0 τ9 eτ9) ?_
    refine r_aload_n 0 dX13_banns_44 rfl ?_
    refine r_bipush (v := 18) dX13_banns_45 (by decide) ?_
    obtain ⟨v10, ev10, h⟩ := bd0_some h
    refine q_cSL [.int (18 : Int32)] dX13_banns_47 cs_X13_62 rfl rfl (Nat.le_of_ble_eq_true rfl) (by omega) (kX13_wordOf (d - 1) (by omega) (18 : Int32)  v10 ev10) ?_
    obtain ⟨τ11, eτ11, h⟩ := bd0_some h
    refine q_cVV [.long v10] dX13_banns_50 cv_X13_364 (ci := 12) rfl rfl t0 rfl rfl (Nat.le_of_ble_eq_true rfl) (by omega) (kgX13_writeWord 100 (d - 1) (by omega) τ9 x0 v10 t0 τ11 eτ11) ?_
    refine r_aload_n 0 dX13_banns_53 rfl ?_
    refine r_bipush (v := 32) dX13_banns_54 (by decide) ?_
    obtain ⟨τ12, eτ12, h⟩ := bd0_some h
    refine q_cVV [.int (32 : Int32)] dX13_banns_56 cv_X13_368 (ci := 12) rfl rfl t0 rfl rfl (Nat.le_of_ble_eq_true rfl) (by omega) (kX13_write (d - 1) (by omega) x0 (32 : Int32) t0 τ12 eτ12) ?_
    refine r_aload_n 0 dX13_banns_59 rfl ?_
    refine r_aload_n 0 dX13_banns_60 rfl ?_
    refine q_getR (e9 := (4, 0)) dX13_banns_61 fd_X13_113 t0 rfl h (fun r13 tr13 h => ?_)
    refine r_aload_n 0 dX13_banns_64 rfl ?_
    refine q_getR (e9 := (1, 0)) dX13_banns_65 fd_X13_98 t0 rfl h (fun r14 tr14 h => ?_)
    refine r_bipush (v := 60) dX13_banns_68 (by decide) ?_
    refine r_iload_n 1 dX13_banns_70 rfl ?_
    refine r_iadd dX13_banns_71 ?_
    refine q_iald dX13_banns_72 tr14 h (fun v15 h => ?_)
    refine q_lald dX13_banns_73 tr13 h (fun v16 h => ?_)
    obtain ⟨τ17, eτ17, h⟩ := bd0_some h
    refine q_cVV [.long v16] dX13_banns_74 cv_X13_364 (ci := 12) rfl rfl t0 rfl rfl (Nat.le_of_ble_eq_true rfl) (by omega) (kgX13_writeWord 100 (d - 1) (by omega) τ12 x0 v16 t0 τ17 eτ17) ?_
    refine r_aload_n 0 dX13_banns_77 rfl ?_
    refine r_bipush (v := 32) dX13_banns_78 (by decide) ?_
    obtain ⟨τ18, eτ18, h⟩ := bd0_some h
    refine q_cVV [.int (32 : Int32)] dX13_banns_80 cv_X13_368 (ci := 12) rfl rfl t0 rfl rfl (Nat.le_of_ble_eq_true rfl) (by omega) (kX13_write (d - 1) (by omega) x0 (32 : Int32) t0 τ18 eτ18) ?_
    refine r_aload_n 0 dX13_banns_83 rfl ?_
    refine r_iload_n 1 dX13_banns_84 rfl ?_
    obtain ⟨v19, ev19, h⟩ := bd0_some h
    refine q_cVI [.int x1] dX13_banns_85 cv_X13_261 (ci := 12) rfl rfl t0 rfl rfl (Nat.le_of_ble_eq_true rfl) (by omega) (kX13_isLapsed (d - 1) (by omega) x0 x1 t0 v19 ev19) ?_
    refine r_if_eq 134 dX13_banns_88 (by decide) h (fun _ h => ?_) (fun _ h => ?_)
    · refine r_aload_n 0 dX13_banns_134 rfl ?_
      refine r_bipush (v := 102) dX13_banns_135 (by decide) ?_
      refine r_bipush (v := 111) dX13_banns_137 (by decide) ?_
      refine r_bipush (v := 114) dX13_banns_139 (by decide) ?_
      refine r_iconst (v := 0) dX13_banns_141 (by decide) ?_
      refine r_iconst (v := 0) dX13_banns_142 (by decide) ?_
      refine r_iconst (v := 0) dX13_banns_143 (by decide) ?_
      obtain ⟨v20, ev20, h⟩ := bd0_some h
      refine q_cSL [.int (102 : Int32), .int (111 : Int32), .int (114 : Int32), .int (0 : Int32), .int (0 : Int32), .int (0 : Int32)] dX13_banns_144 cs_X13_58 rfl rfl (Nat.le_of_ble_eq_true rfl) (by omega) (kX13_spelt (d - 1) (by omega) (102 : Int32) (111 : Int32) (114 : Int32) (0 : Int32) (0 : Int32) (0 : Int32)  v20 ev20) ?_
      obtain ⟨τ21, eτ21, h⟩ := bd0_some h
      refine q_cVV [.long v20] dX13_banns_147 cv_X13_364 (ci := 12) rfl rfl t0 rfl rfl (Nat.le_of_ble_eq_true rfl) (by omega) (kgX13_writeWord 100 (d - 1) (by omega) τ18 x0 v20 t0 τ21 eτ21) ?_
      refine r_aload_n 0 dX13_banns_150 rfl ?_
      refine r_bipush (v := 32) dX13_banns_151 (by decide) ?_
      obtain ⟨τ22, eτ22, h⟩ := bd0_some h
      refine q_cVV [.int (32 : Int32)] dX13_banns_153 cv_X13_368 (ci := 12) rfl rfl t0 rfl rfl (Nat.le_of_ble_eq_true rfl) (by omega) (kX13_write (d - 1) (by omega) x0 (32 : Int32) t0 τ22 eτ22) ?_
      refine r_aload_n 0 dX13_banns_156 rfl ?_
      refine r_iload_n 1 dX13_banns_157 rfl ?_
      obtain ⟨v23, ev23, h⟩ := bd0_some h
      refine q_cVI [.int x1] dX13_banns_158 cv_X13_315 (ci := 12) rfl rfl t0 rfl rfl (Nat.le_of_ble_eq_true rfl) (by omega) (kX13_endOf (d - 1) (by omega) x0 x1 t0 v23 ev23) ?_
      refine r_istore_n (lv' := [(2, .int v23), (0, .ref (G.2.1 x0)), (1, .int x1)]) dX13_banns_161 (by decide) rfl ?_
      refine r_iload_n 0 dX13_banns_162 rfl ?_
      refine r_iconst (v := -1) dX13_banns_163 (by decide) ?_
      refine r_icmp_ne 178 dX13_banns_164 (by decide) h (fun _ h => ?_) (fun _ h => ?_)
      · refine r_aload_n 1 dX13_banns_178 rfl ?_
        refine r_iload_n 0 dX13_banns_179 rfl ?_
        refine r_aload_n 1 dX13_banns_180 rfl ?_
        refine q_getR (e9 := (1, 0)) dX13_banns_181 fd_X13_98 t0 rfl h (fun r24 tr24 h => ?_)
        refine r_bipush (v := 102) dX13_banns_184 (by decide) ?_
        refine q_iald dX13_banns_186 tr24 h (fun v25 h => ?_)
        refine r_isub dX13_banns_187 ?_
        obtain ⟨τ26, eτ26, h⟩ := bd0_some h
        refine q_cVV [.int (v23 - v25)] dX13_banns_188 cv_X13_371 (ci := 12) rfl rfl t0 rfl rfl (Nat.le_of_ble_eq_true rfl) (by omega) (kgX13_writeNumber 100 (d - 1) (by omega) τ22 x0 (v23 - v25) t0 τ26 eτ26) ?_
        refine r_pick [1] rfl ?_
        exact tX13_banns_b191 hdd τ26 x0 t0 _ h hQ
      · refine r_aload_n 1 dX13_banns_167 rfl ?_
        refine r_iconst (v := 5) dX13_banns_168 (by decide) ?_
        obtain ⟨v27, ev27, h⟩ := bd0_some h
        refine q_cSL [.int (5 : Int32)] dX13_banns_169 cs_X13_62 rfl rfl (Nat.le_of_ble_eq_true rfl) (by omega) (kX13_wordOf (d - 1) (by omega) (5 : Int32)  v27 ev27) ?_
        obtain ⟨τ28, eτ28, h⟩ := bd0_some h
        refine q_cVV [.long v27] dX13_banns_172 cv_X13_364 (ci := 12) rfl rfl t0 rfl rfl (Nat.le_of_ble_eq_true rfl) (by omega) (kgX13_writeWord 100 (d - 1) (by omega) τ22 x0 v27 t0 τ28 eτ28) ?_
        refine r_goto 191 dX13_banns_175 (by decide) ?_
        refine r_pick [1] rfl ?_
        exact tX13_banns_b191 hdd τ28 x0 t0 _ h hQ
    · refine r_aload_n 0 dX13_banns_91 rfl ?_
      refine r_bipush (v := 110) dX13_banns_92 (by decide) ?_
      refine r_bipush (v := 111) dX13_banns_94 (by decide) ?_
      refine r_iconst (v := 0) dX13_banns_96 (by decide) ?_
      refine r_iconst (v := 0) dX13_banns_97 (by decide) ?_
      refine r_iconst (v := 0) dX13_banns_98 (by decide) ?_
      refine r_iconst (v := 0) dX13_banns_99 (by decide) ?_
      obtain ⟨v29, ev29, h⟩ := bd0_some h
      refine q_cSL [.int (110 : Int32), .int (111 : Int32), .int (0 : Int32), .int (0 : Int32), .int (0 : Int32), .int (0 : Int32)] dX13_banns_100 cs_X13_58 rfl rfl (Nat.le_of_ble_eq_true rfl) (by omega) (kX13_spelt (d - 1) (by omega) (110 : Int32) (111 : Int32) (0 : Int32) (0 : Int32) (0 : Int32) (0 : Int32)  v29 ev29) ?_
      obtain ⟨τ30, eτ30, h⟩ := bd0_some h
      refine q_cVV [.long v29] dX13_banns_103 cv_X13_364 (ci := 12) rfl rfl t0 rfl rfl (Nat.le_of_ble_eq_true rfl) (by omega) (kgX13_writeWord 100 (d - 1) (by omega) τ18 x0 v29 t0 τ30 eτ30) ?_
      refine r_aload_n 0 dX13_banns_106 rfl ?_
      refine r_bipush (v := 32) dX13_banns_107 (by decide) ?_
      obtain ⟨τ31, eτ31, h⟩ := bd0_some h
      refine q_cVV [.int (32 : Int32)] dX13_banns_109 cv_X13_368 (ci := 12) rfl rfl t0 rfl rfl (Nat.le_of_ble_eq_true rfl) (by omega) (kX13_write (d - 1) (by omega) x0 (32 : Int32) t0 τ31 eτ31) ?_
      refine r_aload_n 0 dX13_banns_112 rfl ?_
      refine r_bipush (v := 109) dX13_banns_113 (by decide) ?_
      refine r_bipush (v := 111) dX13_banns_115 (by decide) ?_
      refine r_bipush (v := 114) dX13_banns_117 (by decide) ?_
      refine r_bipush (v := 101) dX13_banns_119 (by decide) ?_
      refine r_iconst (v := 0) dX13_banns_121 (by decide) ?_
      refine r_iconst (v := 0) dX13_banns_122 (by decide) ?_
      obtain ⟨v32, ev32, h⟩ := bd0_some h
      refine q_cSL [.int (109 : Int32), .int (111 : Int32), .int (114 : Int32), .int (101 : Int32), .int (0 : Int32), .int (0 : Int32)] dX13_banns_123 cs_X13_58 rfl rfl (Nat.le_of_ble_eq_true rfl) (by omega) (kX13_spelt (d - 1) (by omega) (109 : Int32) (111 : Int32) (114 : Int32) (101 : Int32) (0 : Int32) (0 : Int32)  v32 ev32) ?_
      obtain ⟨τ33, eτ33, h⟩ := bd0_some h
      refine q_cVV [.long v32] dX13_banns_126 cv_X13_364 (ci := 12) rfl rfl t0 rfl rfl (Nat.le_of_ble_eq_true rfl) (by omega) (kgX13_writeWord 100 (d - 1) (by omega) τ31 x0 v32 t0 τ33 eτ33) ?_
      refine r_aload_n 0 dX13_banns_129 rfl ?_
      refine r_getI dX13_banns_130 fd_X13_361 t0 ?_
      obtain rfl := Option.some.inj h
      exact r_ireturn dX13_banns_133 rfl hQ (Nat.le_refl _) (Nat.le_refl _)
  · refine r_iconst (v := -1) dX13_banns_13 (by decide) ?_
    obtain rfl := Option.some.inj h
    exact r_ireturn dX13_banns_14 rfl hQ (Nat.le_refl _) (Nat.le_refl _)
theorem tX13_byteAt_b29 {l : Launch} {G : gg} {Γ : ly} {d : Nat} {Q : Option Value → ly → mm → Prop} (hdd : 1 ≤ d) (σ : mm)  (s0 : Int32)   (r : (Int32 × mm)) (h : fX13_byteAt_b29 Γ.2 σ s0 = some r) (hQ : Q (some (.int r.1)) Γ r.2) : WP l G yX13_byteAt cX13_byteAt 2 (some .int) d 0 0 Q 0 0 29 [] [.int s0] Γ σ := by
  unfold fX13_byteAt_b29 at h
  obtain rfl := Option.some.inj h
  exact r_ireturn dX13_byteAt_29 rfl hQ (Nat.le_refl _) (Nat.le_refl _)
theorem kX13_byteAt {l : Launch} {G : gg} {Γ : ly} {σ : mm} (d : Nat) (hdd : 1 ≤ d) (x0 : Nat) (x1 : Int32) (t0 : tyOK Γ (0, 12) x0) (r : (Int32 × mm)) (h : fX13_byteAt Γ.2 σ x0 x1 = some r) : CT l G yX13_byteAt cX13_byteAt 2 (some .int) d 0 0 [.ref (G.2.1 x0), .int x1] Γ σ (PP (some (.int r.1)) Γ r.2) := by
  refine CT.ofWP (by decide) (Nat.le_of_ble_eq_true rfl) ?_
  have hQ : PP (some (.int r.1)) Γ r.2 (some (.int r.1)) Γ r.2 := PP.self
  generalize PP (some (.int r.1)) Γ r.2 = Q at hQ ⊢
  show WP l G yX13_byteAt cX13_byteAt 2 (some .int) d 0 0 Q 0 0 0 [(0, .ref (G.2.1 x0)), (1, .int x1)] [] Γ σ
  unfold fX13_byteAt at h
  refine r_aload_n 0 dX13_byteAt_0 rfl ?_
  refine r_iconst (v := 0) dX13_byteAt_1 (by decide) ?_
  refine q_putI dX13_byteAt_2 fd_X13_1 t0 h (fun τ1 h => ?_)
  refine r_iload_n 1 dX13_byteAt_5 rfl ?_
  refine r_iconst (v := 0) dX13_byteAt_6 (by decide) ?_
  refine r_aload_n 0 dX13_byteAt_7 rfl ?_
  refine r_getI dX13_byteAt_8 fd_X13_361 t0 ?_
  refine r_iconst (v := 1) dX13_byteAt_11 (by decide) ?_
  refine r_isub dX13_byteAt_12 ?_
  obtain ⟨v2, ev2, h⟩ := bd0_some h
  refine q_cSI [.int x1, .int (0 : Int32), .int ((τ1.1 x0 32) - (1 : Int32))] dX13_byteAt_13 cs_X13_75 rfl rfl (Nat.le_of_ble_eq_true rfl) (by omega) (kX13_isIn (d - 1) (by omega) x1 (0 : Int32) ((τ1.1 x0 32) - (1 : Int32))  v2 ev2) ?_
  refine r_if_eq 28 dX13_byteAt_16 (by decide) h (fun _ h => ?_) (fun _ h => ?_)
  · refine r_iconst (v := -1) dX13_byteAt_28 (by decide) ?_
    refine r_pick [] rfl ?_
    exact tX13_byteAt_b29 hdd τ1 (-1 : Int32)  _ h hQ
  · refine r_aload_n 0 dX13_byteAt_19 rfl ?_
    refine q_getR (e9 := (1, 0)) dX13_byteAt_20 fd_X13_136 t0 rfl h (fun r3 tr3 h => ?_)
    refine r_iload_n 1 dX13_byteAt_23 rfl ?_
    refine q_iald dX13_byteAt_24 tr3 h (fun v4 h => ?_)
    refine r_goto 29 dX13_byteAt_25 (by decide) ?_
    refine r_pick [] rfl ?_
    exact tX13_byteAt_b29 hdd τ1 v4  _ h hQ
theorem kX13_draw {l : Launch} {G : gg} {Γ : ly} {σ : mm} (d : Nat) (hdd : 0 ≤ d) (x0 : Nat) (x1 : Int32) (t0 : tyOK Γ (0, 12) x0) (r : (Int32 × mm)) (h : fX13_draw Γ.2 σ x0 x1 = some r) : CT l G yX13_draw cX13_draw 2 (some .int) d 0 0 [.ref (G.2.1 x0), .int x1] Γ σ (PP (some (.int r.1)) Γ r.2) := by
  refine CT.ofWP (by decide) (Nat.le_of_ble_eq_true rfl) ?_
  have hQ : PP (some (.int r.1)) Γ r.2 (some (.int r.1)) Γ r.2 := PP.self
  generalize PP (some (.int r.1)) Γ r.2 = Q at hQ ⊢
  show WP l G yX13_draw cX13_draw 2 (some .int) d 0 0 Q 0 0 0 [(0, .ref (G.2.1 x0)), (1, .int x1)] [] Γ σ
  unfold fX13_draw at h
  refine r_aload_n 0 dX13_draw_0 rfl ?_
  refine r_aload_n 0 dX13_draw_1 rfl ?_
  refine r_getI dX13_draw_2 fd_X13_374 t0 ?_
  refine r_ldcw (v := 1103515245) dX13_draw_5 ki_X13_377 ?_
  refine r_imul dX13_draw_8 ?_
  refine r_sipush (v := 12345) dX13_draw_9 (by decide) ?_
  refine r_iadd dX13_draw_12 ?_
  refine q_putI dX13_draw_13 fd_X13_374 t0 h (fun τ1 h => ?_)
  refine r_aload_n 0 dX13_draw_16 rfl ?_
  refine r_getI dX13_draw_17 fd_X13_374 t0 ?_
  refine r_bipush (v := 8) dX13_draw_20 (by decide) ?_
  refine r_iushr dX13_draw_22 ?_
  refine r_iload_n 1 dX13_draw_23 rfl ?_
  obtain ⟨n2, h⟩ := nz_some h
  refine r_irem dX13_draw_24 n2 ?_
  obtain rfl := Option.some.inj h
  exact r_ireturn dX13_draw_25 rfl hQ (Nat.le_refl _) (Nat.le_refl _)
theorem tX13_tryTo_b17 {l : Launch} {G : gg} {Γ : ly} {d : Nat} {Q : Option Value → ly → mm → Prop} (hdd : 5 ≤ d) (σ : mm)     (r : mm) (h : fX13_tryTo_b17 Γ.2 σ  = some r) (hQ : Q none Γ r) : WP l G yX13_tryTo cX13_tryTo 4 (none) d 0 0 Q 0 0 17 [] [] Γ σ := by
  unfold fX13_tryTo_b17 at h
  obtain rfl := Option.some.inj h
  exact r_return dX13_tryTo_17 rfl hQ (Nat.le_refl _) (Nat.le_refl _)
theorem kX13_tryTo {l : Launch} {G : gg} {Γ : ly} {σ : mm} (d : Nat) (hdd : 5 ≤ d) (x0 : Nat) (x1 : Int32) (x2 : Int32) (x3 : Int32) (t0 : tyOK Γ (0, 12) x0) (r : mm) (h : fX13_tryTo Γ.2 σ x0 x1 x2 x3 = some r) : CT l G yX13_tryTo cX13_tryTo 4 (none) d 0 0 [.ref (G.2.1 x0), .int x1, .int x2, .int x3] Γ σ (PP none Γ r) := by
  refine CT.ofWP (by decide) (Nat.le_of_ble_eq_true rfl) ?_
  have hQ : PP none Γ r none Γ r := PP.self
  generalize PP none Γ r = Q at hQ ⊢
  show WP l G yX13_tryTo cX13_tryTo 4 (none) d 0 0 Q 0 0 0 [(0, .ref (G.2.1 x0)), (1, .int x1), (2, .int x2), (3, .int x3)] [] Γ σ
  unfold fX13_tryTo at h
  refine r_aload_n 0 dX13_tryTo_0 rfl ?_
  refine r_iload_n 1 dX13_tryTo_1 rfl ?_
  refine r_iload_n 2 dX13_tryTo_2 rfl ?_
  refine r_iload_n 3 dX13_tryTo_3 rfl ?_
  obtain ⟨v1, ev1, h⟩ := bd0_some h
  refine q_cVI [.int x1, .int x2, .int x3] dX13_tryTo_4 cv_X13_289 (ci := 12) rfl rfl t0 rfl rfl (Nat.le_of_ble_eq_true rfl) (by omega) (kX13_why (d - 1) (by omega) x0 x1 x2 x3 t0 v1 ev1) ?_
  refine r_if_ne 17 dX13_tryTo_7 (by decide) h (fun _ h => ?_) (fun _ h => ?_)
  · refine r_pick [] rfl ?_
    exact tX13_tryTo_b17 hdd σ  _ h hQ
  · refine r_aload_n 0 dX13_tryTo_10 rfl ?_
    refine r_iload_n 1 dX13_tryTo_11 rfl ?_
    refine r_iload_n 2 dX13_tryTo_12 rfl ?_
    refine r_iload_n 3 dX13_tryTo_13 rfl ?_
    obtain ⟨τ2, eτ2, h⟩ := bd0_some h
    refine q_cVV [.int x1, .int x2, .int x3] dX13_tryTo_14 cv_X13_296 (ci := 12) rfl rfl t0 rfl rfl (Nat.le_of_ble_eq_true rfl) (by omega) (kX13_live (d - 1) (by omega) x0 x1 x2 x3 t0 τ2 eτ2) ?_
    refine r_pick [] rfl ?_
    exact tX13_tryTo_b17 hdd τ2  _ h hQ
theorem tX13_drawHours_b106 {l : Launch} {G : gg} {Γ : ly} {d : Nat} {Q : Option Value → ly → mm → Prop} (hdd : 6 ≤ d) (σ : mm) (x0 : Nat) (x3 : Int32) (x4 : Int32) (x5 : Int32)  (t0 : tyOK Γ (0, 12) x0)  (r : ((Int32 × mm) ⊕ mm)) (h : fX13_drawHours_b106 Γ.2 σ x0 x3 x4 x5 = some r) (hb : ∀ (x5 : Int32) (σ9 : mm), r = .inl (x5, σ9) → WP l G yX13_drawHours cX13_drawHours 7 (some .int) d 0 0 Q 0 0 33 [(0, .ref (G.2.1 x0)), (3, .int x3), (4, .int x4), (5, .int x5)] [] Γ σ9) (hx0 : ∀ (σ9 : mm), r = .inr σ9 → WP l G yX13_drawHours cX13_drawHours 7 (some .int) d 0 0 Q 0 0 112 [(0, .ref (G.2.1 x0)), (3, .int x3), (4, .int x4)] [] Γ σ9) : WP l G yX13_drawHours cX13_drawHours 7 (some .int) d 0 0 Q 0 0 106 [(0, .ref (G.2.1 x0)), (3, .int x3), (4, .int x4), (5, .int x5)] [] Γ σ := by
  unfold fX13_drawHours_b106 at h
  refine q_iinc (v := 1) 3 (fun v1 => [(5, .int v1), (0, .ref (G.2.1 x0)), (3, .int x3), (4, .int x4)]) dX13_drawHours_106 rfl (by decide) (by decide) (fun _ => rfl) h (fun v1 h => ?_)
  refine r_goto 33 dX13_drawHours_109 (by decide) ?_
  obtain rfl := Option.some.inj h
  refine r_pick [1, 2, 3, 0] rfl ?_
  exact hb _ _ rfl
theorem sX13_drawHours_L33 {l : Launch} {G : gg} {Γ : ly} {d : Nat} {Q : Option Value → ly → mm → Prop} (hdd : 6 ≤ d) (x0 : Nat) (x3 : Int32) (x4 : Int32) (t0 : tyOK Γ (0, 12) x0) {K : mm → Prop} (kx0 : ∀ (σ9 : mm), K σ9 → WP l G yX13_drawHours cX13_drawHours 7 (some .int) d 0 0 Q 0 0 112 [(0, .ref (G.2.1 x0)), (3, .int x3), (4, .int x4)] [] Γ σ9) : ∀ (N : Nat) (s : (Int32 × mm)) (b : mm), loopN (fX13_drawHours_L33 Γ.2 x0 x3 x4) N s = some b → K b → WP l G yX13_drawHours cX13_drawHours 7 (some .int) d 0 0 Q 0 0 33 [(0, .ref (G.2.1 x0)), (3, .int x3), (4, .int x4), (5, .int s.1)] [] Γ s.2 := by
  refine r_loop (f := fX13_drawHours_L33 Γ.2 x0 x3 x4) (hlv := fun s => [(0, .ref (G.2.1 x0)), (3, .int x3), (4, .int x4), (5, .int s.1)]) (hsg := fun s => s.2) ?_
  rintro ⟨x5, σ⟩ r h hb hx
  have hb : ∀ (x5 : Int32) (σ : mm), r = .inl (x5, σ) → WP l G yX13_drawHours cX13_drawHours 7 (some .int) d 0 0 Q 0 0 33 [(0, .ref (G.2.1 x0)), (3, .int x3), (4, .int x4), (5, .int x5)] [] Γ σ := fun x5 σ e => hb (x5, σ) e
  have hx0 : ∀ (σ9 : mm), r = .inr σ9 → WP l G yX13_drawHours cX13_drawHours 7 (some .int) d 0 0 Q 0 0 112 [(0, .ref (G.2.1 x0)), (3, .int x3), (4, .int x4)] [] Γ σ9 := fun σ9 e => kx0 σ9 (hx _ e)
  unfold fX13_drawHours_L33 at h
  have h := un2_some h
  show WP l G yX13_drawHours cX13_drawHours 7 (some .int) d 0 0 Q 0 0 33 [(0, .ref (G.2.1 x0)), (3, .int x3), (4, .int x4), (5, .int x5)] [] Γ σ
  refine r_iload 3 dX13_drawHours_33 rfl ?_
  refine r_aload_n 0 dX13_drawHours_35 rfl ?_
  refine q_getR (e9 := (1, 0)) dX13_drawHours_36 fd_X13_98 t0 rfl h (fun r1 tr1 h => ?_)
  refine r_iconst (v := 0) dX13_drawHours_39 (by decide) ?_
  refine q_iald dX13_drawHours_40 tr1 h (fun v2 h => ?_)
  refine r_icmp_ge 112 dX13_drawHours_41 (by decide) h (fun _ h => ?_) (fun _ h => ?_)
  · obtain rfl := Option.some.inj h
    refine r_pick [0, 1, 2] rfl ?_
    exact hx0 _ rfl
  · refine r_aload_n 0 dX13_drawHours_44 rfl ?_
    refine r_bipush (v := 12) dX13_drawHours_45 (by decide) ?_
    obtain ⟨v3, τ4, ev3, h⟩ := bd2_some h
    refine q_cVI [.int (12 : Int32)] dX13_drawHours_47 cv_X13_378 (ci := 12) rfl rfl t0 rfl rfl (Nat.le_of_ble_eq_true rfl) (by omega) (kX13_draw (d - 1) (by omega) x0 (12 : Int32) t0 (v3, τ4) ev3) ?_
    refine r_istore (lv' := [(6, .int v3), (0, .ref (G.2.1 x0)), (3, .int x3), (4, .int x4), (5, .int x5)]) dX13_drawHours_50 (by decide) rfl ?_
    refine r_iload 0 dX13_drawHours_52 rfl ?_
    refine r_if_ne 75 dX13_drawHours_54 (by decide) h (fun _ h => ?_) (fun _ h => ?_)
    · refine r_iload 0 dX13_drawHours_75 rfl ?_
      refine r_iconst (v := 1) dX13_drawHours_77 (by decide) ?_
      refine r_icmp_ne 92 dX13_drawHours_78 (by decide) h (fun _ h => ?_) (fun _ h => ?_)
      · refine r_iload 0 dX13_drawHours_92 rfl ?_
        refine r_iconst (v := 2) dX13_drawHours_94 (by decide) ?_
        refine r_icmp_ne 106 dX13_drawHours_95 (by decide) h (fun _ h => ?_) (fun _ h => ?_)
        · refine r_pick [1, 2, 3, 4] rfl ?_
          exact tX13_drawHours_b106 hdd τ4 x0 x3 x4 x5 t0 _ h hb hx0
        · refine r_aload_n 1 dX13_drawHours_98 rfl ?_
          refine r_iconst (v := 1) dX13_drawHours_99 (by decide) ?_
          refine r_iload 4 dX13_drawHours_100 rfl ?_
          refine r_iconst (v := 0) dX13_drawHours_102 (by decide) ?_
          obtain ⟨τ5, eτ5, h⟩ := bd0_some h
          refine q_cVV [.int (1 : Int32), .int x5, .int (0 : Int32)] dX13_drawHours_103 cv_X13_381 (ci := 12) rfl rfl t0 rfl rfl (Nat.le_of_ble_eq_true rfl) (by omega) (kX13_tryTo (d - 1) (by omega) x0 (1 : Int32) x5 (0 : Int32) t0 τ5 eτ5) ?_
          refine r_pick [1, 2, 3, 4] rfl ?_
          exact tX13_drawHours_b106 hdd τ5 x0 x3 x4 x5 t0 _ h hb hx0
      · refine r_aload_n 1 dX13_drawHours_81 rfl ?_
        refine r_iconst (v := 0) dX13_drawHours_82 (by decide) ?_
        refine r_iload 4 dX13_drawHours_83 rfl ?_
        refine r_iconst (v := 0) dX13_drawHours_85 (by decide) ?_
        obtain ⟨τ6, eτ6, h⟩ := bd0_some h
        refine q_cVV [.int (0 : Int32), .int x5, .int (0 : Int32)] dX13_drawHours_86 cv_X13_381 (ci := 12) rfl rfl t0 rfl rfl (Nat.le_of_ble_eq_true rfl) (by omega) (kX13_tryTo (d - 1) (by omega) x0 (0 : Int32) x5 (0 : Int32) t0 τ6 eτ6) ?_
        refine r_goto 106 dX13_drawHours_89 (by decide) ?_
        refine r_pick [1, 2, 3, 4] rfl ?_
        exact tX13_drawHours_b106 hdd τ6 x0 x3 x4 x5 t0 _ h hb hx0
    · refine r_aload_n 1 dX13_drawHours_57 rfl ?_
      refine r_iconst (v := 2) dX13_drawHours_58 (by decide) ?_
      refine r_iload 4 dX13_drawHours_59 rfl ?_
      refine r_iconst (v := 1) dX13_drawHours_61 (by decide) ?_
      refine r_aload_n 1 dX13_drawHours_62 rfl ?_
      refine r_bipush (v := 10) dX13_drawHours_63 (by decide) ?_
      obtain ⟨v7, τ8, ev7, h⟩ := bd2_some h
      refine q_cVI [.int (10 : Int32)] dX13_drawHours_65 cv_X13_378 (ci := 12) rfl rfl t0 rfl rfl (Nat.le_of_ble_eq_true rfl) (by omega) (kX13_draw (d - 1) (by omega) x0 (10 : Int32) t0 (v7, τ8) ev7) ?_
      refine r_iadd dX13_drawHours_68 ?_
      obtain ⟨τ9, eτ9, h⟩ := bd0_some h
      refine q_cVV [.int (2 : Int32), .int x5, .int ((1 : Int32) + v7)] dX13_drawHours_69 cv_X13_381 (ci := 12) rfl rfl t0 rfl rfl (Nat.le_of_ble_eq_true rfl) (by omega) (kX13_tryTo (d - 1) (by omega) x0 (2 : Int32) x5 ((1 : Int32) + v7) t0 τ9 eτ9) ?_
      refine r_goto 106 dX13_drawHours_72 (by decide) ?_
      refine r_pick [1, 2, 3, 4] rfl ?_
      exact tX13_drawHours_b106 hdd τ9 x0 x3 x4 x5 t0 _ h hb hx0
theorem tX13_drawHours_b150 {l : Launch} {G : gg} {Γ : ly} {d : Nat} {Q : Option Value → ly → mm → Prop} (hdd : 6 ≤ d) (σ : mm) (x0 : Nat) (x3 : Int32) (x4 : Int32) (x5 : Int32)  (t0 : tyOK Γ (0, 12) x0)  (r : ((Int32 × mm) ⊕ mm)) (h : fX13_drawHours_b150 Γ.2 σ x0 x3 x4 x5 = some r) (hb : ∀ (x5 : Int32) (σ9 : mm), r = .inl (x5, σ9) → WP l G yX13_drawHours cX13_drawHours 7 (some .int) d 0 0 Q 0 0 115 [(0, .ref (G.2.1 x0)), (3, .int x3), (4, .int x4), (5, .int x5)] [] Γ σ9) (hx0 : ∀ (σ9 : mm), r = .inr σ9 → WP l G yX13_drawHours cX13_drawHours 7 (some .int) d 0 0 Q 0 0 156 [(0, .ref (G.2.1 x0)), (3, .int x3), (4, .int x4)] [] Γ σ9) : WP l G yX13_drawHours cX13_drawHours 7 (some .int) d 0 0 Q 0 0 150 [(0, .ref (G.2.1 x0)), (3, .int x3), (4, .int x4), (5, .int x5)] [] Γ σ := by
  unfold fX13_drawHours_b150 at h
  refine q_iinc (v := 1) 3 (fun v1 => [(5, .int v1), (0, .ref (G.2.1 x0)), (3, .int x3), (4, .int x4)]) dX13_drawHours_150 rfl (by decide) (by decide) (fun _ => rfl) h (fun v1 h => ?_)
  refine r_goto 115 dX13_drawHours_153 (by decide) ?_
  obtain rfl := Option.some.inj h
  refine r_pick [1, 2, 3, 0] rfl ?_
  exact hb _ _ rfl
theorem sX13_drawHours_L115 {l : Launch} {G : gg} {Γ : ly} {d : Nat} {Q : Option Value → ly → mm → Prop} (hdd : 6 ≤ d) (x0 : Nat) (x3 : Int32) (x4 : Int32) (t0 : tyOK Γ (0, 12) x0) {K : mm → Prop} (kx0 : ∀ (σ9 : mm), K σ9 → WP l G yX13_drawHours cX13_drawHours 7 (some .int) d 0 0 Q 0 0 156 [(0, .ref (G.2.1 x0)), (3, .int x3), (4, .int x4)] [] Γ σ9) : ∀ (N : Nat) (s : (Int32 × mm)) (b : mm), loopN (fX13_drawHours_L115 Γ.2 x0 x3 x4) N s = some b → K b → WP l G yX13_drawHours cX13_drawHours 7 (some .int) d 0 0 Q 0 0 115 [(0, .ref (G.2.1 x0)), (3, .int x3), (4, .int x4), (5, .int s.1)] [] Γ s.2 := by
  refine r_loop (f := fX13_drawHours_L115 Γ.2 x0 x3 x4) (hlv := fun s => [(0, .ref (G.2.1 x0)), (3, .int x3), (4, .int x4), (5, .int s.1)]) (hsg := fun s => s.2) ?_
  rintro ⟨x5, σ⟩ r h hb hx
  have hb : ∀ (x5 : Int32) (σ : mm), r = .inl (x5, σ) → WP l G yX13_drawHours cX13_drawHours 7 (some .int) d 0 0 Q 0 0 115 [(0, .ref (G.2.1 x0)), (3, .int x3), (4, .int x4), (5, .int x5)] [] Γ σ := fun x5 σ e => hb (x5, σ) e
  have hx0 : ∀ (σ9 : mm), r = .inr σ9 → WP l G yX13_drawHours cX13_drawHours 7 (some .int) d 0 0 Q 0 0 156 [(0, .ref (G.2.1 x0)), (3, .int x3), (4, .int x4)] [] Γ σ9 := fun σ9 e => kx0 σ9 (hx _ e)
  unfold fX13_drawHours_L115 at h
  have h := un2_some h
  show WP l G yX13_drawHours cX13_drawHours 7 (some .int) d 0 0 Q 0 0 115 [(0, .ref (G.2.1 x0)), (3, .int x3), (4, .int x4), (5, .int x5)] [] Γ σ
  refine r_iload 3 dX13_drawHours_115 rfl ?_
  refine r_aload_n 0 dX13_drawHours_117 rfl ?_
  refine q_getR (e9 := (1, 0)) dX13_drawHours_118 fd_X13_98 t0 rfl h (fun r1 tr1 h => ?_)
  refine r_iconst (v := 1) dX13_drawHours_121 (by decide) ?_
  refine q_iald dX13_drawHours_122 tr1 h (fun v2 h => ?_)
  refine r_icmp_ge 156 dX13_drawHours_123 (by decide) h (fun _ h => ?_) (fun _ h => ?_)
  · obtain rfl := Option.some.inj h
    refine r_pick [0, 1, 2] rfl ?_
    exact hx0 _ rfl
  · refine r_aload_n 0 dX13_drawHours_126 rfl ?_
    refine r_bipush (v := 30) dX13_drawHours_127 (by decide) ?_
    obtain ⟨v3, τ4, ev3, h⟩ := bd2_some h
    refine q_cVI [.int (30 : Int32)] dX13_drawHours_129 cv_X13_378 (ci := 12) rfl rfl t0 rfl rfl (Nat.le_of_ble_eq_true rfl) (by omega) (kX13_draw (d - 1) (by omega) x0 (30 : Int32) t0 (v3, τ4) ev3) ?_
    refine r_if_ne 150 dX13_drawHours_132 (by decide) h (fun _ h => ?_) (fun _ h => ?_)
    · exact tX13_drawHours_b150 hdd τ4 x0 x3 x4 x5 t0 _ h hb hx0
    · refine r_aload_n 0 dX13_drawHours_135 rfl ?_
      refine r_iconst (v := 5) dX13_drawHours_136 (by decide) ?_
      refine r_iload 3 dX13_drawHours_137 rfl ?_
      refine r_iconst (v := 1) dX13_drawHours_139 (by decide) ?_
      refine r_aload_n 0 dX13_drawHours_140 rfl ?_
      refine r_bipush (v := 20) dX13_drawHours_141 (by decide) ?_
      obtain ⟨v5, τ6, ev5, h⟩ := bd2_some h
      refine q_cVI [.int (20 : Int32)] dX13_drawHours_143 cv_X13_378 (ci := 12) rfl rfl t0 rfl rfl (Nat.le_of_ble_eq_true rfl) (by omega) (kX13_draw (d - 1) (by omega) x0 (20 : Int32) t0 (v5, τ6) ev5) ?_
      refine r_iadd dX13_drawHours_146 ?_
      obtain ⟨τ7, eτ7, h⟩ := bd0_some h
      refine q_cVV [.int (5 : Int32), .int x5, .int ((1 : Int32) + v5)] dX13_drawHours_147 cv_X13_381 (ci := 12) rfl rfl t0 rfl rfl (Nat.le_of_ble_eq_true rfl) (by omega) (kX13_tryTo (d - 1) (by omega) x0 (5 : Int32) x5 ((1 : Int32) + v5) t0 τ7 eτ7) ?_
      exact tX13_drawHours_b150 hdd τ7 x0 x3 x4 x5 t0 _ h hb hx0
theorem sX13_drawHours_L24 {l : Launch} {G : gg} {Γ : ly} {d : Nat} {Q : Option Value → ly → mm → Prop} (hdd : 6 ≤ d) (x0 : Nat) (x3 : Int32) (t0 : tyOK Γ (0, 12) x0) {K : mm → Prop} (kx0 : ∀ (σ9 : mm), K σ9 → WP l G yX13_drawHours cX13_drawHours 7 (some .int) d 0 0 Q 0 0 166 [(3, .int x3)] [] Γ σ9) : ∀ (N : Nat) (s : (Int32 × mm)) (b : mm), loopN (fX13_drawHours_L24 Γ.2 x0 x3) N s = some b → K b → WP l G yX13_drawHours cX13_drawHours 7 (some .int) d 0 0 Q 0 0 24 [(0, .ref (G.2.1 x0)), (3, .int x3), (4, .int s.1)] [] Γ s.2 := by
  refine r_loop (f := fX13_drawHours_L24 Γ.2 x0 x3) (hlv := fun s => [(0, .ref (G.2.1 x0)), (3, .int x3), (4, .int s.1)]) (hsg := fun s => s.2) ?_
  rintro ⟨x4, σ⟩ r h hb hx
  have hb : ∀ (x4 : Int32) (σ : mm), r = .inl (x4, σ) → WP l G yX13_drawHours cX13_drawHours 7 (some .int) d 0 0 Q 0 0 24 [(0, .ref (G.2.1 x0)), (3, .int x3), (4, .int x4)] [] Γ σ := fun x4 σ e => hb (x4, σ) e
  have hx0 : ∀ (σ9 : mm), r = .inr σ9 → WP l G yX13_drawHours cX13_drawHours 7 (some .int) d 0 0 Q 0 0 166 [(3, .int x3)] [] Γ σ9 := fun σ9 e => kx0 σ9 (hx _ e)
  unfold fX13_drawHours_L24 at h
  have h := un2_some h
  show WP l G yX13_drawHours cX13_drawHours 7 (some .int) d 0 0 Q 0 0 24 [(0, .ref (G.2.1 x0)), (3, .int x3), (4, .int x4)] [] Γ σ
  refine r_iload 2 dX13_drawHours_24 rfl ?_
  refine r_iload_n 1 dX13_drawHours_26 rfl ?_
  refine r_icmp_ge 166 dX13_drawHours_27 (by decide) h (fun _ h => ?_) (fun _ h => ?_)
  · obtain rfl := Option.some.inj h
    refine r_pick [1] rfl ?_
    exact hx0 _ rfl
  · refine r_iconst (v := 0) dX13_drawHours_30 (by decide) ?_
    refine r_istore (lv' := [(5, .int (0 : Int32)), (0, .ref (G.2.1 x0)), (3, .int x3), (4, .int x4)]) dX13_drawHours_31 (by decide) rfl ?_
    obtain ⟨b1, eb1, h⟩ := bd0_some h
    refine r_pick [1, 2, 3, 0] rfl ?_
    refine sX13_drawHours_L33 hdd x0 x3 x4 t0 (K := fun b => b = b1) ?_ 1000 ((0 : Int32), σ) b1 eb1 rfl
    rintro τ2 rfl
    refine r_iconst (v := 0) dX13_drawHours_112 (by decide) ?_
    refine r_istore (lv' := [(5, .int (0 : Int32)), (0, .ref (G.2.1 x0)), (3, .int x3), (4, .int x4)]) dX13_drawHours_113 (by decide) rfl ?_
    obtain ⟨b3, eb3, h⟩ := bd0_some h
    refine r_pick [1, 2, 3, 0] rfl ?_
    refine sX13_drawHours_L115 hdd x0 x3 x4 t0 (K := fun b => b = b3) ?_ 1000 ((0 : Int32), τ2) b3 eb3 rfl
    rintro τ4 rfl
    refine r_aload_n 0 dX13_drawHours_156 rfl ?_
    obtain ⟨τ5, eτ5, h⟩ := bd0_some h
    refine q_cVV [] dX13_drawHours_157 cv_X13_306 (ci := 12) rfl rfl t0 rfl rfl (Nat.le_of_ble_eq_true rfl) (by omega) (kX13_oneHour (d - 1) (by omega) x0 t0 τ5 eτ5) ?_
    refine q_iinc (v := 1) 2 (fun v6 => [(4, .int v6), (0, .ref (G.2.1 x0)), (3, .int x3)]) dX13_drawHours_160 rfl (by decide) (by decide) (fun _ => rfl) h (fun v6 h => ?_)
    refine r_goto 24 dX13_drawHours_163 (by decide) ?_
    obtain rfl := Option.some.inj h
    refine r_pick [1, 2, 0] rfl ?_
    exact hb _ _ rfl
theorem kX13_drawHours {l : Launch} {G : gg} {Γ : ly} {σ : mm} (d : Nat) (hdd : 6 ≤ d) (x0 : Nat) (x1 : Int32) (x2 : Int32) (t0 : tyOK Γ (0, 12) x0) (r : (Int32 × mm)) (h : fX13_drawHours Γ.2 σ x0 x1 x2 = some r) : CT l G yX13_drawHours cX13_drawHours 7 (some .int) d 0 0 [.ref (G.2.1 x0), .int x1, .int x2] Γ σ (PP (some (.int r.1)) Γ r.2) := by
  refine CT.ofWP (by decide) (Nat.le_of_ble_eq_true rfl) ?_
  have hQ : PP (some (.int r.1)) Γ r.2 (some (.int r.1)) Γ r.2 := PP.self
  generalize PP (some (.int r.1)) Γ r.2 = Q at hQ ⊢
  show WP l G yX13_drawHours cX13_drawHours 7 (some .int) d 0 0 Q 0 0 0 [(0, .ref (G.2.1 x0)), (1, .int x1), (2, .int x2)] [] Γ σ
  unfold fX13_drawHours at h
  refine r_aload_n 0 dX13_drawHours_0 rfl ?_
  refine r_iload_n 2 dX13_drawHours_1 rfl ?_
  refine q_putI dX13_drawHours_2 fd_X13_374 t0 h (fun τ1 h => ?_)
  refine r_iload_n 1 dX13_drawHours_5 rfl ?_
  refine r_sipush (v := 600) dX13_drawHours_6 (by decide) ?_
  refine r_aload_n 0 dX13_drawHours_9 rfl ?_
  refine q_getR (e9 := (1, 0)) dX13_drawHours_10 fd_X13_98 t0 rfl h (fun r2 tr2 h => ?_)
  refine r_bipush (v := 102) dX13_drawHours_13 (by decide) ?_
  refine q_iald dX13_drawHours_15 tr2 h (fun v3 h => ?_)
  refine r_isub dX13_drawHours_16 ?_
  obtain ⟨v4, ev4, h⟩ := bd0_some h
  refine q_cSI [.int x1, .int ((600 : Int32) - v3)] dX13_drawHours_17 cs_X13_227 rfl rfl (Nat.le_of_ble_eq_true rfl) (by omega) (kX13_least (d - 1) (by omega) x1 ((600 : Int32) - v3)  v4 ev4) ?_
  refine r_istore_n (lv' := [(3, .int v4), (0, .ref (G.2.1 x0)), (1, .int x1), (2, .int x2)]) dX13_drawHours_20 (by decide) rfl ?_
  refine r_iconst (v := 0) dX13_drawHours_21 (by decide) ?_
  refine r_istore (lv' := [(4, .int (0 : Int32)), (3, .int v4), (0, .ref (G.2.1 x0)), (1, .int x1), (2, .int x2)]) dX13_drawHours_22 (by decide) rfl ?_
  obtain ⟨b5, eb5, h⟩ := bd0_some h
  refine r_pick [2, 1, 0] rfl ?_
  refine sX13_drawHours_L24 hdd x0 v4 t0 (K := fun b => b = b5) ?_ 1000 ((0 : Int32), τ1) b5 eb5 rfl
  rintro τ6 rfl
  refine r_iload_n 0 dX13_drawHours_166 rfl ?_
  obtain rfl := Option.some.inj h
  exact r_ireturn dX13_drawHours_167 rfl hQ (Nat.le_refl _) (Nat.le_refl _)
theorem tX13_drawn_b24 {l : Launch} {G : gg} {Γ : ly} {d : Nat} {Q : Option Value → ly → mm → Prop} (hdd : 7 ≤ d) (σ : mm)     (r : (Int32 × mm)) (h : fX13_drawn_b24 Γ.2 σ  = some r) (hQ : Q (some (.int r.1)) Γ r.2) : WP l G yX13_drawn cX13_drawn 3 (some .int) d 0 0 Q 0 0 24 [] [] Γ σ := by
  unfold fX13_drawn_b24 at h
  refine r_iconst (v := -1) dX13_drawn_24 (by decide) ?_
  obtain rfl := Option.some.inj h
  exact r_ireturn dX13_drawn_25 rfl hQ (Nat.le_refl _) (Nat.le_refl _)
theorem kX13_drawn {l : Launch} {G : gg} {Γ : ly} {σ : mm} (d : Nat) (hdd : 7 ≤ d) (x0 : Nat) (x1 : Int32) (x2 : Int32) (t0 : tyOK Γ (0, 12) x0) (r : (Int32 × mm)) (h : fX13_drawn Γ.2 σ x0 x1 x2 = some r) : CT l G yX13_drawn cX13_drawn 3 (some .int) d 0 0 [.ref (G.2.1 x0), .int x1, .int x2] Γ σ (PP (some (.int r.1)) Γ r.2) := by
  refine CT.ofWP (by decide) (Nat.le_of_ble_eq_true rfl) ?_
  have hQ : PP (some (.int r.1)) Γ r.2 (some (.int r.1)) Γ r.2 := PP.self
  generalize PP (some (.int r.1)) Γ r.2 = Q at hQ ⊢
  show WP l G yX13_drawn cX13_drawn 3 (some .int) d 0 0 Q 0 0 0 [(0, .ref (G.2.1 x0)), (1, .int x1), (2, .int x2)] [] Γ σ
  unfold fX13_drawn at h
  refine r_aload_n 0 dX13_drawn_0 rfl ?_
  refine r_iconst (v := 0) dX13_drawn_1 (by decide) ?_
  refine q_putI dX13_drawn_2 fd_X13_1 t0 h (fun τ1 h => ?_)
  refine r_iload_n 1 dX13_drawn_5 rfl ?_
  refine r_iconst (v := 1) dX13_drawn_6 (by decide) ?_
  refine r_bipush (v := 60) dX13_drawn_7 (by decide) ?_
  obtain ⟨v2, ev2, h⟩ := bd0_some h
  refine q_cSI [.int x1, .int (1 : Int32), .int (60 : Int32)] dX13_drawn_9 cs_X13_75 rfl rfl (Nat.le_of_ble_eq_true rfl) (by omega) (kX13_isIn (d - 1) (by omega) x1 (1 : Int32) (60 : Int32)  v2 ev2) ?_
  refine r_if_eq 24 dX13_drawn_12 (by decide) h (fun _ h => ?_) (fun _ h => ?_)
  · refine r_pick [] rfl ?_
    exact tX13_drawn_b24 hdd τ1  _ h hQ
  · refine r_aload_n 0 dX13_drawn_15 rfl ?_
    refine q_getR (e9 := (1, 0)) dX13_drawn_16 fd_X13_98 t0 rfl h (fun r3 tr3 h => ?_)
    refine r_iconst (v := 0) dX13_drawn_19 (by decide) ?_
    refine q_iald dX13_drawn_20 tr3 h (fun v4 h => ?_)
    refine r_if_ne 26 dX13_drawn_21 (by decide) h (fun _ h => ?_) (fun _ h => ?_)
    · refine r_aload_n 0 dX13_drawn_26 rfl ?_
      refine q_getR (e9 := (1, 0)) dX13_drawn_27 fd_X13_98 t0 rfl h (fun r5 tr5 h => ?_)
      refine r_bipush (v := 102) dX13_drawn_30 (by decide) ?_
      refine q_iald dX13_drawn_32 tr5 h (fun v6 h => ?_)
      refine r_sipush (v := 600) dX13_drawn_33 (by decide) ?_
      refine r_icmp_ne 41 dX13_drawn_36 (by decide) h (fun _ h => ?_) (fun _ h => ?_)
      · refine r_aload_n 0 dX13_drawn_41 rfl ?_
        obtain ⟨τ7, eτ7, h⟩ := bd0_some h
        refine q_cVV [] dX13_drawn_42 cv_X13_293 (ci := 12) rfl rfl t0 rfl rfl (Nat.le_of_ble_eq_true rfl) (by omega) (kX13_snap (d - 1) (by omega) x0 t0 τ7 eτ7) ?_
        refine r_aload_n 0 dX13_drawn_45 rfl ?_
        refine r_iload_n 1 dX13_drawn_46 rfl ?_
        refine r_iload_n 2 dX13_drawn_47 rfl ?_
        obtain ⟨v8, τ9, ev8, h⟩ := bd2_some h
        refine q_cVI [.int x1, .int x2] dX13_drawn_48 cv_X13_384 (ci := 12) rfl rfl t0 rfl rfl (Nat.le_of_ble_eq_true rfl) (by omega) (kX13_drawHours (d - 1) (by omega) x0 x1 x2 t0 (v8, τ9) ev8) ?_
        obtain rfl := Option.some.inj h
        exact r_ireturn dX13_drawn_51 rfl hQ (Nat.le_refl _) (Nat.le_refl _)
      · refine r_iconst (v := 0) dX13_drawn_39 (by decide) ?_
        obtain rfl := Option.some.inj h
        exact r_ireturn dX13_drawn_40 rfl hQ (Nat.le_refl _) (Nat.le_refl _)
    · refine r_pick [] rfl ?_
      exact tX13_drawn_b24 hdd τ1  _ h hQ
theorem tX13_odds_b23 {l : Launch} {G : gg} {Γ : ly} {d : Nat} {Q : Option Value → ly → mm → Prop} (hdd : 7 ≤ d) (σ : mm)     (r : (Int32 × mm)) (h : fX13_odds_b23 Γ.2 σ  = some r) (hQ : Q (some (.int r.1)) Γ r.2) : WP l G yX13_odds cX13_odds 6 (some .int) d 0 0 Q 0 0 23 [] [] Γ σ := by
  unfold fX13_odds_b23 at h
  refine r_iconst (v := -1) dX13_odds_23 (by decide) ?_
  obtain rfl := Option.some.inj h
  exact r_ireturn dX13_odds_24 rfl hQ (Nat.le_refl _) (Nat.le_refl _)
theorem tX13_odds_b63 {l : Launch} {G : gg} {Γ : ly} {d : Nat} {Q : Option Value → ly → mm → Prop} (hdd : 7 ≤ d) (σ : mm) (x0 : Nat) (x1 : Int32) (x2 : Int32) (x3 : Int32) (x4 : Int32) (x5 : Int32)  (t0 : tyOK Γ (0, 12) x0)  (r : ((Int32 × Int32 × mm) ⊕ (Int32 × mm))) (h : fX13_odds_b63 Γ.2 σ x0 x1 x2 x3 x4 x5 = some r) (hb : ∀ (x4 : Int32) (x5 : Int32) (σ9 : mm), r = .inl (x4, x5, σ9) → WP l G yX13_odds cX13_odds 6 (some .int) d 0 0 Q 0 0 35 [(0, .ref (G.2.1 x0)), (1, .int x1), (2, .int x2), (3, .int x3), (4, .int x4), (5, .int x5)] [] Γ σ9) (hx0 : ∀ (x4 : Int32) (σ9 : mm), r = .inr (x4, σ9) → WP l G yX13_odds cX13_odds 6 (some .int) d 0 0 Q 0 0 73 [(4, .int x4)] [] Γ σ9) : WP l G yX13_odds cX13_odds 6 (some .int) d 0 0 Q 0 0 63 [(0, .ref (G.2.1 x0)), (1, .int x1), (2, .int x2), (3, .int x3), (4, .int x4), (5, .int x5)] [] Γ σ := by
  unfold fX13_odds_b63 at h
  refine r_aload_n 0 dX13_odds_63 rfl ?_
  obtain ⟨τ1, eτ1, h⟩ := bd0_some h
  refine q_cVV [] dX13_odds_64 cv_X13_321 (ci := 12) rfl rfl t0 rfl rfl (Nat.le_of_ble_eq_true rfl) (by omega) (kX13_takeBack (d - 1) (by omega) x0 t0 τ1 eτ1) ?_
  refine q_iinc (v := 1) 5 (fun v2 => [(5, .int v2), (0, .ref (G.2.1 x0)), (1, .int x1), (2, .int x2), (3, .int x3), (4, .int x4)]) dX13_odds_67 rfl (by decide) (by decide) (fun _ => rfl) h (fun v2 h => ?_)
  refine r_goto 35 dX13_odds_70 (by decide) ?_
  obtain rfl := Option.some.inj h
  refine r_pick [1, 2, 3, 4, 5, 0] rfl ?_
  exact hb _ _ _ rfl
theorem sX13_odds_L35 {l : Launch} {G : gg} {Γ : ly} {d : Nat} {Q : Option Value → ly → mm → Prop} (hdd : 7 ≤ d) (x0 : Nat) (x1 : Int32) (x2 : Int32) (x3 : Int32) (t0 : tyOK Γ (0, 12) x0) {K : (Int32 × mm) → Prop} (kx0 : ∀ (x4 : Int32) (σ9 : mm), K (x4, σ9) → WP l G yX13_odds cX13_odds 6 (some .int) d 0 0 Q 0 0 73 [(4, .int x4)] [] Γ σ9) : ∀ (N : Nat) (s : (Int32 × Int32 × mm)) (b : (Int32 × mm)), loopN (fX13_odds_L35 Γ.2 x0 x1 x2 x3) N s = some b → K b → WP l G yX13_odds cX13_odds 6 (some .int) d 0 0 Q 0 0 35 [(0, .ref (G.2.1 x0)), (1, .int x1), (2, .int x2), (3, .int x3), (4, .int s.1), (5, .int s.2.1)] [] Γ s.2.2 := by
  refine r_loop (f := fX13_odds_L35 Γ.2 x0 x1 x2 x3) (hlv := fun s => [(0, .ref (G.2.1 x0)), (1, .int x1), (2, .int x2), (3, .int x3), (4, .int s.1), (5, .int s.2.1)]) (hsg := fun s => s.2.2) ?_
  rintro ⟨x4, x5, σ⟩ r h hb hx
  have hb : ∀ (x4 : Int32) (x5 : Int32) (σ : mm), r = .inl (x4, x5, σ) → WP l G yX13_odds cX13_odds 6 (some .int) d 0 0 Q 0 0 35 [(0, .ref (G.2.1 x0)), (1, .int x1), (2, .int x2), (3, .int x3), (4, .int x4), (5, .int x5)] [] Γ σ := fun x4 x5 σ e => hb (x4, x5, σ) e
  have hx0 : ∀ (x4 : Int32) (σ9 : mm), r = .inr (x4, σ9) → WP l G yX13_odds cX13_odds 6 (some .int) d 0 0 Q 0 0 73 [(4, .int x4)] [] Γ σ9 := fun x4 σ9 e => kx0 x4 σ9 (hx _ e)
  unfold fX13_odds_L35 at h
  have h := un3_some h
  show WP l G yX13_odds cX13_odds 6 (some .int) d 0 0 Q 0 0 35 [(0, .ref (G.2.1 x0)), (1, .int x1), (2, .int x2), (3, .int x3), (4, .int x4), (5, .int x5)] [] Γ σ
  refine r_iload 5 dX13_odds_35 rfl ?_
  refine r_iload_n 2 dX13_odds_37 rfl ?_
  refine r_icmp_ge 73 dX13_odds_38 (by decide) h (fun _ h => ?_) (fun _ h => ?_)
  · obtain rfl := Option.some.inj h
    refine r_pick [4] rfl ?_
    exact hx0 _ _ rfl
  · refine r_aload_n 0 dX13_odds_41 rfl ?_
    refine r_bipush (v := 48) dX13_odds_42 (by decide) ?_
    refine r_iload_n 3 dX13_odds_44 rfl ?_
    refine r_iload 5 dX13_odds_45 rfl ?_
    refine r_iadd dX13_odds_47 ?_
    obtain ⟨v1, τ2, ev1, h⟩ := bd2_some h
    refine q_cVI [.int (48 : Int32), .int (x3 + x5)] dX13_odds_48 cv_X13_384 (ci := 12) rfl rfl t0 rfl rfl (Nat.le_of_ble_eq_true rfl) (by omega) (kX13_drawHours (d - 1) (by omega) x0 (48 : Int32) (x3 + x5) t0 (v1, τ2) ev1) ?_
    refine r_pop dX13_odds_51 rfl ?_
    refine r_aload_n 0 dX13_odds_52 rfl ?_
    refine r_iload_n 1 dX13_odds_53 rfl ?_
    obtain ⟨v3, ev3, h⟩ := bd0_some h
    refine q_cVI [.int x1] dX13_odds_54 cv_X13_261 (ci := 12) rfl rfl t0 rfl rfl (Nat.le_of_ble_eq_true rfl) (by omega) (kX13_isLapsed (d - 1) (by omega) x0 x1 t0 v3 ev3) ?_
    refine r_if_ne 63 dX13_odds_57 (by decide) h (fun _ h => ?_) (fun _ h => ?_)
    · exact tX13_odds_b63 hdd τ2 x0 x1 x2 x3 x4 x5 t0 _ h hb hx0
    · refine q_iinc (v := 1) 4 (fun v4 => [(4, .int v4), (0, .ref (G.2.1 x0)), (1, .int x1), (2, .int x2), (3, .int x3), (5, .int x5)]) dX13_odds_60 rfl (by decide) (by decide) (fun _ => rfl) h (fun v4 h => ?_)
      refine r_pick [1, 2, 3, 4, 0, 5] rfl ?_
      exact tX13_odds_b63 hdd τ2 x0 x1 x2 x3 v4 x5 t0 _ h hb hx0
theorem kX13_odds {l : Launch} {G : gg} {Γ : ly} {σ : mm} (d : Nat) (hdd : 7 ≤ d) (x0 : Nat) (x1 : Int32) (x2 : Int32) (x3 : Int32) (t0 : tyOK Γ (0, 12) x0) (r : (Int32 × mm)) (h : fX13_odds Γ.2 σ x0 x1 x2 x3 = some r) : CT l G yX13_odds cX13_odds 6 (some .int) d 0 0 [.ref (G.2.1 x0), .int x1, .int x2, .int x3] Γ σ (PP (some (.int r.1)) Γ r.2) := by
  refine CT.ofWP (by decide) (Nat.le_of_ble_eq_true rfl) ?_
  have hQ : PP (some (.int r.1)) Γ r.2 (some (.int r.1)) Γ r.2 := PP.self
  generalize PP (some (.int r.1)) Γ r.2 = Q at hQ ⊢
  show WP l G yX13_odds cX13_odds 6 (some .int) d 0 0 Q 0 0 0 [(0, .ref (G.2.1 x0)), (1, .int x1), (2, .int x2), (3, .int x3)] [] Γ σ
  unfold fX13_odds at h
  refine r_aload_n 0 dX13_odds_0 rfl ?_
  refine r_iconst (v := 0) dX13_odds_1 (by decide) ?_
  refine q_putI dX13_odds_2 fd_X13_1 t0 h (fun τ1 h => ?_)
  refine r_aload_n 0 dX13_odds_5 rfl ?_
  refine r_iload_n 1 dX13_odds_6 rfl ?_
  obtain ⟨v2, ev2, h⟩ := bd0_some h
  refine q_cVI [.int x1] dX13_odds_7 cv_X13_258 (ci := 12) rfl rfl t0 rfl rfl (Nat.le_of_ble_eq_true rfl) (by omega) (kX13_isGlass (d - 1) (by omega) x0 x1 t0 v2 ev2) ?_
  refine r_if_eq 23 dX13_odds_10 (by decide) h (fun _ h => ?_) (fun _ h => ?_)
  · refine r_pick [] rfl ?_
    exact tX13_odds_b23 hdd τ1  _ h hQ
  · refine r_iload_n 2 dX13_odds_13 rfl ?_
    refine r_iconst (v := 1) dX13_odds_14 (by decide) ?_
    refine r_bipush (v := 30) dX13_odds_15 (by decide) ?_
    obtain ⟨v3, ev3, h⟩ := bd0_some h
    refine q_cSI [.int x2, .int (1 : Int32), .int (30 : Int32)] dX13_odds_17 cs_X13_75 rfl rfl (Nat.le_of_ble_eq_true rfl) (by omega) (kX13_isIn (d - 1) (by omega) x2 (1 : Int32) (30 : Int32)  v3 ev3) ?_
    refine r_if_ne 25 dX13_odds_20 (by decide) h (fun _ h => ?_) (fun _ h => ?_)
    · refine r_aload_n 0 dX13_odds_25 rfl ?_
      obtain ⟨τ4, eτ4, h⟩ := bd0_some h
      refine q_cVV [] dX13_odds_26 cv_X13_318 (ci := 12) rfl rfl t0 rfl rfl (Nat.le_of_ble_eq_true rfl) (by omega) (kX13_layAside (d - 1) (by omega) x0 t0 τ4 eτ4) ?_
      refine r_iconst (v := 0) dX13_odds_29 (by decide) ?_
      refine r_istore (lv' := [(4, .int (0 : Int32)), (0, .ref (G.2.1 x0)), (1, .int x1), (2, .int x2), (3, .int x3)]) dX13_odds_30 (by decide) rfl ?_
      refine r_iconst (v := 0) dX13_odds_32 (by decide) ?_
      refine r_istore (lv' := [(5, .int (0 : Int32)), (4, .int (0 : Int32)), (0, .ref (G.2.1 x0)), (1, .int x1), (2, .int x2), (3, .int x3)]) dX13_odds_33 (by decide) rfl ?_
      obtain ⟨b5, eb5, h⟩ := bd0_some h
      refine r_pick [2, 3, 4, 5, 1, 0] rfl ?_
      refine sX13_odds_L35 hdd x0 x1 x2 x3 t0 (K := fun b => b = b5) ?_ 1000 ((0 : Int32), (0 : Int32), τ4) b5 eb5 rfl
      rintro v6 τ7 rfl
      have h := un2_some h
      refine r_iload 0 dX13_odds_73 rfl ?_
      obtain rfl := Option.some.inj h
      exact r_ireturn dX13_odds_75 rfl hQ (Nat.le_refl _) (Nat.le_refl _)
    · refine r_pick [] rfl ?_
      exact tX13_odds_b23 hdd τ1  _ h hQ
theorem kX13_readNamed {l : Launch} {G : gg} {Γ : ly} {σ : mm} (d : Nat) (hdd : 3 ≤ d) (x0 : Nat) (x1 : Int32) (x2 : Int32) (t0 : tyOK Γ (0, 12) x0) (r : (Int32 × mm)) (h : fX13_readNamed Γ.2 σ x0 x1 x2 = some r) : CT l G yX13_readNamed cX13_readNamed 3 (some .boolean) d 0 0 [.ref (G.2.1 x0), .int x1, .int x2] Γ σ (PP (some (.int r.1)) Γ r.2) := by
  refine CT.ofWP (by decide) (Nat.le_of_ble_eq_true rfl) ?_
  have hQ : PP (some (.int r.1)) Γ r.2 (some (.int r.1)) Γ r.2 := PP.self
  generalize PP (some (.int r.1)) Γ r.2 = Q at hQ ⊢
  show WP l G yX13_readNamed cX13_readNamed 3 (some .boolean) d 0 0 Q 0 0 0 [(0, .ref (G.2.1 x0)), (1, .int x1), (2, .int x2)] [] Γ σ
  unfold fX13_readNamed at h
  refine r_aload_n 0 dX13_readNamed_0 rfl ?_
  obtain ⟨v1, ev1, h⟩ := bd0_some h
  refine q_cVI [] dX13_readNamed_1 cv_X13_154 (ci := 12) rfl rfl t0 rfl rfl (Nat.le_of_ble_eq_true rfl) (by omega) (kX13_isName (d - 1) (by omega) x0 t0 v1 ev1) ?_
  refine r_if_ne 13 dX13_readNamed_4 (by decide) h (fun _ h => ?_) (fun _ h => ?_)
  · refine r_aload_n 0 dX13_readNamed_13 rfl ?_
    refine r_aload_n 0 dX13_readNamed_14 rfl ?_
    refine q_getR (e9 := (4, 0)) dX13_readNamed_15 fd_X13_113 t0 rfl h (fun r2 tr2 h => ?_)
    refine r_iload_n 1 dX13_readNamed_18 rfl ?_
    refine r_iload_n 2 dX13_readNamed_19 rfl ?_
    refine r_aload_n 0 dX13_readNamed_20 rfl ?_
    refine r_getL dX13_readNamed_21 fd_X13_43 t0 ?_
    obtain ⟨v3, ev3, h⟩ := bd0_some h
    refine q_cSI [.ref (G.2.1 r2), .int x1, .int x2, .long (σ.2.1 x0 12)] dX13_readNamed_24 cs_X13_158 rfl rfl (Nat.le_of_ble_eq_true rfl) (by omega) (kX13_findIn (d - 1) (by omega) r2 x1 x2 (σ.2.1 x0 12) tr2 v3 ev3) ?_
    refine q_putI dX13_readNamed_27 fd_X13_79 t0 h (fun τ4 h => ?_)
    refine r_aload_n 0 dX13_readNamed_30 rfl ?_
    refine r_getI dX13_readNamed_31 fd_X13_79 t0 ?_
    refine r_iconst (v := -1) dX13_readNamed_34 (by decide) ?_
    refine r_icmp_ne 44 dX13_readNamed_35 (by decide) h (fun _ h => ?_) (fun _ h => ?_)
    · refine r_aload_n 0 dX13_readNamed_44 rfl ?_
      obtain ⟨τ5, eτ5, h⟩ := bd0_some h
      refine q_cVV [] dX13_readNamed_45 cv_X13_82 (ci := 12) rfl rfl t0 rfl rfl (Nat.le_of_ble_eq_true rfl) (by omega) (kX13_go (d - 1) (by omega) x0 t0 τ5 eτ5) ?_
      refine r_iconst (v := 1) dX13_readNamed_48 (by decide) ?_
      obtain rfl := Option.some.inj h
      exact r_zreturn dX13_readNamed_49 rfl (by decide) hQ (Nat.le_refl _) (Nat.le_refl _)
    · refine r_aload_n 0 dX13_readNamed_38 rfl ?_
      refine r_iconst (v := 3) dX13_readNamed_39 (by decide) ?_
      obtain ⟨v6, τ7, ev6, h⟩ := bd2_some h
      refine q_cVI [.int (3 : Int32)] dX13_readNamed_40 cv_X13_72 (ci := 12) rfl rfl t0 rfl rfl (Nat.le_of_ble_eq_true rfl) (by omega) (kX13_bad (d - 1) (by omega) x0 (3 : Int32) t0 (v6, τ7) ev6) ?_
      obtain ⟨hbz, h⟩ := rZ_some h
      obtain rfl := Option.some.inj h
      exact r_zreturn dX13_readNamed_43 rfl hbz hQ (Nat.le_refl _) (Nat.le_refl _)
  · refine r_aload_n 0 dX13_readNamed_7 rfl ?_
    refine r_iconst (v := 1) dX13_readNamed_8 (by decide) ?_
    obtain ⟨v8, τ9, ev8, h⟩ := bd2_some h
    refine q_cVI [.int (1 : Int32)] dX13_readNamed_9 cv_X13_72 (ci := 12) rfl rfl t0 rfl rfl (Nat.le_of_ble_eq_true rfl) (by omega) (kX13_bad (d - 1) (by omega) x0 (1 : Int32) t0 (v8, τ9) ev8) ?_
    obtain ⟨hbz, h⟩ := rZ_some h
    obtain rfl := Option.some.inj h
    exact r_zreturn dX13_readNamed_12 rfl hbz hQ (Nat.le_refl _) (Nat.le_refl _)
theorem kX13_readCount {l : Launch} {G : gg} {Γ : ly} {σ : mm} (d : Nat) (hdd : 3 ≤ d) (x0 : Nat) (x1 : Int32) (x2 : Int32) (x3 : Int32) (x4 : Int32) (t0 : tyOK Γ (0, 12) x0) (r : (Int32 × mm)) (h : fX13_readCount Γ.2 σ x0 x1 x2 x3 x4 = some r) : CT l G yX13_readCount cX13_readCount 5 (some .boolean) d 0 0 [.ref (G.2.1 x0), .int x1, .int x2, .int x3, .int x4] Γ σ (PP (some (.int r.1)) Γ r.2) := by
  refine CT.ofWP (by decide) (Nat.le_of_ble_eq_true rfl) ?_
  have hQ : PP (some (.int r.1)) Γ r.2 (some (.int r.1)) Γ r.2 := PP.self
  generalize PP (some (.int r.1)) Γ r.2 = Q at hQ ⊢
  show WP l G yX13_readCount cX13_readCount 5 (some .boolean) d 0 0 Q 0 0 0 [(0, .ref (G.2.1 x0)), (1, .int x1), (2, .int x2), (3, .int x3), (4, .int x4)] [] Γ σ
  unfold fX13_readCount at h
  refine r_aload_n 0 dX13_readCount_0 rfl ?_
  refine q_getR (e9 := (1, 0)) dX13_readCount_1 fd_X13_139 t0 rfl h (fun r1 tr1 h => ?_)
  refine r_iload_n 1 dX13_readCount_4 rfl ?_
  refine r_iload_n 2 dX13_readCount_5 rfl ?_
  refine q_iast dX13_readCount_6 tr1 h (fun τ2 h => ?_)
  refine r_aload_n 0 dX13_readCount_7 rfl ?_
  obtain ⟨τ3, eτ3, h⟩ := bd0_some h
  refine q_cVV [] dX13_readCount_8 cv_X13_82 (ci := 12) rfl rfl t0 rfl rfl (Nat.le_of_ble_eq_true rfl) (by omega) (kX13_go (d - 1) (by omega) x0 t0 τ3 eτ3) ?_
  refine r_aload_n 0 dX13_readCount_11 rfl ?_
  refine r_iload_n 3 dX13_readCount_12 rfl ?_
  refine r_iload 4 dX13_readCount_13 rfl ?_
  obtain ⟨v4, τ5, ev4, h⟩ := bd2_some h
  refine q_cVI [.int x3, .int x4] dX13_readCount_15 cv_X13_172 (ci := 12) rfl rfl t0 rfl rfl (Nat.le_of_ble_eq_true rfl) (by omega) (kX13_readNumber (d - 1) (by omega) x0 x3 x4 t0 (v4, τ5) ev4) ?_
  refine r_if_ne 23 dX13_readCount_18 (by decide) h (fun _ h => ?_) (fun _ h => ?_)
  · refine r_aload_n 0 dX13_readCount_23 rfl ?_
    refine q_getR (e9 := (1, 0)) dX13_readCount_24 fd_X13_139 t0 rfl h (fun r6 tr6 h => ?_)
    refine r_iload_n 1 dX13_readCount_27 rfl ?_
    refine r_iconst (v := 2) dX13_readCount_28 (by decide) ?_
    refine r_iadd dX13_readCount_29 ?_
    refine r_aload_n 0 dX13_readCount_30 rfl ?_
    refine r_getI dX13_readCount_31 fd_X13_79 t0 ?_
    refine q_iast dX13_readCount_34 tr6 h (fun τ7 h => ?_)
    refine r_iconst (v := 1) dX13_readCount_35 (by decide) ?_
    obtain rfl := Option.some.inj h
    exact r_zreturn dX13_readCount_36 rfl (by decide) hQ (Nat.le_refl _) (Nat.le_refl _)
  · refine r_iconst (v := 0) dX13_readCount_21 (by decide) ?_
    obtain rfl := Option.some.inj h
    exact r_zreturn dX13_readCount_22 rfl (by decide) hQ (Nat.le_refl _) (Nat.le_refl _)
theorem tX13_readPersonDoes_b62 {l : Launch} {G : gg} {Γ : ly} {d : Nat} {Q : Option Value → ly → mm → Prop} (hdd : 4 ≤ d) (σ : mm) (x0 : Nat) (x1 : Int32) (s0 : Nat) (s1 : Int32) (s2 : Int32) (t0 : tyOK Γ (0, 12) x0) (u0 : tyOK Γ (1, 0) s0) (r : (Int32 × mm)) (h : fX13_readPersonDoes_b62 Γ.2 σ x0 x1 s0 s1 s2 = some r) (hQ : Q (some (.int r.1)) Γ r.2) : WP l G yX13_readPersonDoes cX13_readPersonDoes 2 (some .boolean) d 0 0 Q 0 0 62 [(0, .ref (G.2.1 x0)), (1, .int x1)] [.int s2, .int s1, .ref (G.2.1 s0)] Γ σ := by
  unfold fX13_readPersonDoes_b62 at h
  refine q_iast dX13_readPersonDoes_62 u0 h (fun τ1 h => ?_)
  refine r_aload_n 0 dX13_readPersonDoes_63 rfl ?_
  refine q_getR (e9 := (1, 0)) dX13_readPersonDoes_64 fd_X13_139 t0 rfl h (fun r2 tr2 h => ?_)
  refine r_iload_n 1 dX13_readPersonDoes_67 rfl ?_
  refine r_iconst (v := 2) dX13_readPersonDoes_68 (by decide) ?_
  refine r_iadd dX13_readPersonDoes_69 ?_
  refine r_iconst (v := 0) dX13_readPersonDoes_70 (by decide) ?_
  refine q_iast dX13_readPersonDoes_71 tr2 h (fun τ3 h => ?_)
  refine r_aload_n 0 dX13_readPersonDoes_72 rfl ?_
  obtain ⟨τ4, eτ4, h⟩ := bd0_some h
  refine q_cVV [] dX13_readPersonDoes_73 cv_X13_82 (ci := 12) rfl rfl t0 rfl rfl (Nat.le_of_ble_eq_true rfl) (by omega) (kX13_go (d - 1) (by omega) x0 t0 τ4 eτ4) ?_
  refine r_iconst (v := 1) dX13_readPersonDoes_76 (by decide) ?_
  obtain rfl := Option.some.inj h
  exact r_zreturn dX13_readPersonDoes_77 rfl (by decide) hQ (Nat.le_refl _) (Nat.le_refl _)
theorem tX13_readPersonDoes_b43 {l : Launch} {G : gg} {Γ : ly} {d : Nat} {Q : Option Value → ly → mm → Prop} (hdd : 4 ≤ d) (σ : mm) (x0 : Nat) (x1 : Int32)  (t0 : tyOK Γ (0, 12) x0)  (r : (Int32 × mm)) (h : fX13_readPersonDoes_b43 Γ.2 σ x0 x1 = some r) (hQ : Q (some (.int r.1)) Γ r.2) : WP l G yX13_readPersonDoes cX13_readPersonDoes 2 (some .boolean) d 0 0 Q 0 0 43 [(0, .ref (G.2.1 x0)), (1, .int x1)] [] Γ σ := by
  unfold fX13_readPersonDoes_b43 at h
  refine r_aload_n 0 dX13_readPersonDoes_43 rfl ?_
  refine q_getR (e9 := (1, 0)) dX13_readPersonDoes_44 fd_X13_139 t0 rfl h (fun r1 tr1 h => ?_)
  refine r_iload_n 1 dX13_readPersonDoes_47 rfl ?_
  refine r_aload_n 0 dX13_readPersonDoes_48 rfl ?_
  refine r_bipush (v := 10) dX13_readPersonDoes_49 (by decide) ?_
  obtain ⟨v2, ev2, h⟩ := bd0_some h
  refine q_cVI [.int (10 : Int32)] dX13_readPersonDoes_51 cv_X13_191 (ci := 12) rfl rfl t0 rfl rfl (Nat.le_of_ble_eq_true rfl) (by omega) (kX13_isWord (d - 1) (by omega) x0 (10 : Int32) t0 v2 ev2) ?_
  refine r_if_eq 61 dX13_readPersonDoes_54 (by decide) h (fun _ h => ?_) (fun _ h => ?_)
  · refine r_iconst (v := 1) dX13_readPersonDoes_61 (by decide) ?_
    exact tX13_readPersonDoes_b62 hdd σ x0 x1 r1 x1 (1 : Int32) t0 tr1 _ h hQ
  · refine r_iconst (v := 0) dX13_readPersonDoes_57 (by decide) ?_
    refine r_goto 62 dX13_readPersonDoes_58 (by decide) ?_
    exact tX13_readPersonDoes_b62 hdd σ x0 x1 r1 x1 (0 : Int32) t0 tr1 _ h hQ
theorem kX13_readPersonDoes {l : Launch} {G : gg} {Γ : ly} {σ : mm} (d : Nat) (hdd : 4 ≤ d) (x0 : Nat) (x1 : Int32) (t0 : tyOK Γ (0, 12) x0) (r : (Int32 × mm)) (h : fX13_readPersonDoes Γ.2 σ x0 x1 = some r) : CT l G yX13_readPersonDoes cX13_readPersonDoes 2 (some .boolean) d 0 0 [.ref (G.2.1 x0), .int x1] Γ σ (PP (some (.int r.1)) Γ r.2) := by
  refine CT.ofWP (by decide) (Nat.le_of_ble_eq_true rfl) ?_
  have hQ : PP (some (.int r.1)) Γ r.2 (some (.int r.1)) Γ r.2 := PP.self
  generalize PP (some (.int r.1)) Γ r.2 = Q at hQ ⊢
  show WP l G yX13_readPersonDoes cX13_readPersonDoes 2 (some .boolean) d 0 0 Q 0 0 0 [(0, .ref (G.2.1 x0)), (1, .int x1)] [] Γ σ
  unfold fX13_readPersonDoes at h
  refine r_aload_n 0 dX13_readPersonDoes_0 rfl ?_
  refine r_bipush (v := 12) dX13_readPersonDoes_1 (by decide) ?_
  obtain ⟨v1, ev1, h⟩ := bd0_some h
  refine q_cVI [.int (12 : Int32)] dX13_readPersonDoes_3 cv_X13_191 (ci := 12) rfl rfl t0 rfl rfl (Nat.le_of_ble_eq_true rfl) (by omega) (kX13_isWord (d - 1) (by omega) x0 (12 : Int32) t0 v1 ev1) ?_
  refine r_if_eq 19 dX13_readPersonDoes_6 (by decide) h (fun _ h => ?_) (fun _ h => ?_)
  · refine r_aload_n 0 dX13_readPersonDoes_19 rfl ?_
    refine r_bipush (v := 10) dX13_readPersonDoes_20 (by decide) ?_
    obtain ⟨v2, ev2, h⟩ := bd0_some h
    refine q_cVI [.int (10 : Int32)] dX13_readPersonDoes_22 cv_X13_191 (ci := 12) rfl rfl t0 rfl rfl (Nat.le_of_ble_eq_true rfl) (by omega) (kX13_isWord (d - 1) (by omega) x0 (10 : Int32) t0 v2 ev2) ?_
    refine r_if_ne 43 dX13_readPersonDoes_25 (by decide) h (fun _ h => ?_) (fun _ h => ?_)
    · exact tX13_readPersonDoes_b43 hdd σ x0 x1 t0 _ h hQ
    · refine r_aload_n 0 dX13_readPersonDoes_28 rfl ?_
      refine r_bipush (v := 11) dX13_readPersonDoes_29 (by decide) ?_
      obtain ⟨v3, ev3, h⟩ := bd0_some h
      refine q_cVI [.int (11 : Int32)] dX13_readPersonDoes_31 cv_X13_191 (ci := 12) rfl rfl t0 rfl rfl (Nat.le_of_ble_eq_true rfl) (by omega) (kX13_isWord (d - 1) (by omega) x0 (11 : Int32) t0 v3 ev3) ?_
      refine r_if_ne 43 dX13_readPersonDoes_34 (by decide) h (fun _ h => ?_) (fun _ h => ?_)
      · exact tX13_readPersonDoes_b43 hdd σ x0 x1 t0 _ h hQ
      · refine r_aload_n 0 dX13_readPersonDoes_37 rfl ?_
        refine r_iconst (v := 1) dX13_readPersonDoes_38 (by decide) ?_
        obtain ⟨v4, τ5, ev4, h⟩ := bd2_some h
        refine q_cVI [.int (1 : Int32)] dX13_readPersonDoes_39 cv_X13_72 (ci := 12) rfl rfl t0 rfl rfl (Nat.le_of_ble_eq_true rfl) (by omega) (kX13_bad (d - 1) (by omega) x0 (1 : Int32) t0 (v4, τ5) ev4) ?_
        obtain ⟨hbz, h⟩ := rZ_some h
        obtain rfl := Option.some.inj h
        exact r_zreturn dX13_readPersonDoes_42 rfl hbz hQ (Nat.le_refl _) (Nat.le_refl _)
  · refine r_aload_n 0 dX13_readPersonDoes_9 rfl ?_
    refine r_iload_n 1 dX13_readPersonDoes_10 rfl ?_
    refine r_iconst (v := 2) dX13_readPersonDoes_11 (by decide) ?_
    refine r_iconst (v := 1) dX13_readPersonDoes_12 (by decide) ?_
    refine r_bipush (v := 20) dX13_readPersonDoes_13 (by decide) ?_
    obtain ⟨v6, τ7, ev6, h⟩ := bd2_some h
    refine q_cVI [.int x1, .int (2 : Int32), .int (1 : Int32), .int (20 : Int32)] dX13_readPersonDoes_15 cv_X13_387 (ci := 12) rfl rfl t0 rfl rfl (Nat.le_of_ble_eq_true rfl) (by omega) (kX13_readCount (d - 1) (by omega) x0 x1 (2 : Int32) (1 : Int32) (20 : Int32) t0 (v6, τ7) ev6) ?_
    obtain ⟨hbz, h⟩ := rZ_some h
    obtain rfl := Option.some.inj h
    exact r_zreturn dX13_readPersonDoes_18 rfl hbz hQ (Nat.le_refl _) (Nat.le_refl _)
