/-! the walks, 4 -/
theorem kX4_copyFrom {l : Launch} {G : gg} {Γ : ly} {σ : mm} (d : Nat) (hdd : 2 ≤ d) (x0 : Nat) (x1 : Nat) (t0 : tyOK Γ (0, 4) x0) (t1 : tyOK Γ (0, 4) x1) (r : mm) (h : fX4_copyFrom Γ.2 σ x0 x1 = some r) : CT l G yX4_copyFrom cX4_copyFrom 2 (none) d 0 0 [.ref (G.2.1 x0), .ref (G.2.1 x1)] Γ σ (PP none Γ r) := by
  refine CT.ofWP (by decide) (Nat.le_of_ble_eq_true rfl) ?_
  have hQ : PP none Γ r none Γ r := PP.self
  generalize PP none Γ r = Q at hQ ⊢
  show WP l G yX4_copyFrom cX4_copyFrom 2 (none) d 0 0 Q 0 0 0 [(0, .ref (G.2.1 x0)), (1, .ref (G.2.1 x1))] [] Γ σ
  unfold fX4_copyFrom at h
  refine r_aload_n 1 dX4_copyFrom_0 rfl ?_
  refine q_getR (e9 := (4, 0)) dX4_copyFrom_1 fd_X4_9 t1 rfl h (fun r1 tr1 h => ?_)
  refine r_iconst (v := 0) dX4_copyFrom_4 (by decide) ?_
  refine r_aload_n 0 dX4_copyFrom_5 rfl ?_
  refine q_getR (e9 := (4, 0)) dX4_copyFrom_6 fd_X4_9 t0 rfl h (fun r2 tr2 h => ?_)
  refine r_iconst (v := 0) dX4_copyFrom_9 (by decide) ?_
  refine r_bipush (v := 8) dX4_copyFrom_10 (by decide) ?_
  refine q_copyL dX4_copyFrom_12 cp_X4_82 tr1 tr2 (Nat.le_of_ble_eq_true rfl) (by omega) h (fun τ3 h => ?_)
  refine r_aload_n 1 dX4_copyFrom_15 rfl ?_
  refine q_getR (e9 := (1, 0)) dX4_copyFrom_16 fd_X4_15 t1 rfl h (fun r4 tr4 h => ?_)
  refine r_iconst (v := 0) dX4_copyFrom_19 (by decide) ?_
  refine r_aload_n 0 dX4_copyFrom_20 rfl ?_
  refine q_getR (e9 := (1, 0)) dX4_copyFrom_21 fd_X4_15 t0 rfl h (fun r5 tr5 h => ?_)
  refine r_iconst (v := 0) dX4_copyFrom_24 (by decide) ?_
  refine r_bipush (v := 8) dX4_copyFrom_25 (by decide) ?_
  refine q_copyI dX4_copyFrom_27 cp_X4_82 tr4 tr5 (Nat.le_of_ble_eq_true rfl) (by omega) h (fun τ6 h => ?_)
  refine r_aload_n 1 dX4_copyFrom_30 rfl ?_
  refine q_getR (e9 := (1, 0)) dX4_copyFrom_31 fd_X4_19 t1 rfl h (fun r7 tr7 h => ?_)
  refine r_iconst (v := 0) dX4_copyFrom_34 (by decide) ?_
  refine r_aload_n 0 dX4_copyFrom_35 rfl ?_
  refine q_getR (e9 := (1, 0)) dX4_copyFrom_36 fd_X4_19 t0 rfl h (fun r8 tr8 h => ?_)
  refine r_iconst (v := 0) dX4_copyFrom_39 (by decide) ?_
  refine r_bipush (v := 8) dX4_copyFrom_40 (by decide) ?_
  refine q_copyI dX4_copyFrom_42 cp_X4_82 tr7 tr8 (Nat.le_of_ble_eq_true rfl) (by omega) h (fun τ9 h => ?_)
  refine r_aload_n 1 dX4_copyFrom_45 rfl ?_
  refine q_getR (e9 := (1, 0)) dX4_copyFrom_46 fd_X4_22 t1 rfl h (fun r10 tr10 h => ?_)
  refine r_iconst (v := 0) dX4_copyFrom_49 (by decide) ?_
  refine r_aload_n 0 dX4_copyFrom_50 rfl ?_
  refine q_getR (e9 := (1, 0)) dX4_copyFrom_51 fd_X4_22 t0 rfl h (fun r11 tr11 h => ?_)
  refine r_iconst (v := 0) dX4_copyFrom_54 (by decide) ?_
  refine r_bipush (v := 8) dX4_copyFrom_55 (by decide) ?_
  refine q_copyI dX4_copyFrom_57 cp_X4_82 tr10 tr11 (Nat.le_of_ble_eq_true rfl) (by omega) h (fun τ12 h => ?_)
  refine r_aload_n 1 dX4_copyFrom_60 rfl ?_
  refine q_getR (e9 := (1, 0)) dX4_copyFrom_61 fd_X4_25 t1 rfl h (fun r13 tr13 h => ?_)
  refine r_iconst (v := 0) dX4_copyFrom_64 (by decide) ?_
  refine r_aload_n 0 dX4_copyFrom_65 rfl ?_
  refine q_getR (e9 := (1, 0)) dX4_copyFrom_66 fd_X4_25 t0 rfl h (fun r14 tr14 h => ?_)
  refine r_iconst (v := 0) dX4_copyFrom_69 (by decide) ?_
  refine r_bipush (v := 8) dX4_copyFrom_70 (by decide) ?_
  refine q_copyI dX4_copyFrom_72 cp_X4_82 tr13 tr14 (Nat.le_of_ble_eq_true rfl) (by omega) h (fun τ15 h => ?_)
  refine r_aload_n 1 dX4_copyFrom_75 rfl ?_
  refine q_getR (e9 := (1, 0)) dX4_copyFrom_76 fd_X4_28 t1 rfl h (fun r16 tr16 h => ?_)
  refine r_iconst (v := 0) dX4_copyFrom_79 (by decide) ?_
  refine r_aload_n 0 dX4_copyFrom_80 rfl ?_
  refine q_getR (e9 := (1, 0)) dX4_copyFrom_81 fd_X4_28 t0 rfl h (fun r17 tr17 h => ?_)
  refine r_iconst (v := 0) dX4_copyFrom_84 (by decide) ?_
  refine r_bipush (v := 8) dX4_copyFrom_85 (by decide) ?_
  refine q_copyI dX4_copyFrom_87 cp_X4_82 tr16 tr17 (Nat.le_of_ble_eq_true rfl) (by omega) h (fun τ18 h => ?_)
  refine r_aload_n 0 dX4_copyFrom_90 rfl ?_
  refine r_aload_n 1 dX4_copyFrom_91 rfl ?_
  refine r_getI dX4_copyFrom_92 fd_X4_63 t1 ?_
  refine q_putI dX4_copyFrom_95 fd_X4_63 t0 h (fun τ19 h => ?_)
  refine r_aload_n 1 dX4_copyFrom_98 rfl ?_
  refine q_getR (e9 := (4, 0)) dX4_copyFrom_99 fd_X4_31 t1 rfl h (fun r20 tr20 h => ?_)
  refine r_iconst (v := 0) dX4_copyFrom_102 (by decide) ?_
  refine r_aload_n 0 dX4_copyFrom_103 rfl ?_
  refine q_getR (e9 := (4, 0)) dX4_copyFrom_104 fd_X4_31 t0 rfl h (fun r21 tr21 h => ?_)
  refine r_iconst (v := 0) dX4_copyFrom_107 (by decide) ?_
  refine r_iconst (v := 4) dX4_copyFrom_108 (by decide) ?_
  refine q_copyL dX4_copyFrom_109 cp_X4_82 tr20 tr21 (Nat.le_of_ble_eq_true rfl) (by omega) h (fun τ22 h => ?_)
  refine r_aload_n 1 dX4_copyFrom_112 rfl ?_
  refine q_getR (e9 := (1, 0)) dX4_copyFrom_113 fd_X4_34 t1 rfl h (fun r23 tr23 h => ?_)
  refine r_iconst (v := 0) dX4_copyFrom_116 (by decide) ?_
  refine r_aload_n 0 dX4_copyFrom_117 rfl ?_
  refine q_getR (e9 := (1, 0)) dX4_copyFrom_118 fd_X4_34 t0 rfl h (fun r24 tr24 h => ?_)
  refine r_iconst (v := 0) dX4_copyFrom_121 (by decide) ?_
  refine r_iconst (v := 4) dX4_copyFrom_122 (by decide) ?_
  refine q_copyI dX4_copyFrom_123 cp_X4_82 tr23 tr24 (Nat.le_of_ble_eq_true rfl) (by omega) h (fun τ25 h => ?_)
  refine r_aload_n 1 dX4_copyFrom_126 rfl ?_
  refine q_getR (e9 := (1, 0)) dX4_copyFrom_127 fd_X4_37 t1 rfl h (fun r26 tr26 h => ?_)
  refine r_iconst (v := 0) dX4_copyFrom_130 (by decide) ?_
  refine r_aload_n 0 dX4_copyFrom_131 rfl ?_
  refine q_getR (e9 := (1, 0)) dX4_copyFrom_132 fd_X4_37 t0 rfl h (fun r27 tr27 h => ?_)
  refine r_iconst (v := 0) dX4_copyFrom_135 (by decide) ?_
  refine r_iconst (v := 4) dX4_copyFrom_136 (by decide) ?_
  refine q_copyI dX4_copyFrom_137 cp_X4_82 tr26 tr27 (Nat.le_of_ble_eq_true rfl) (by omega) h (fun τ28 h => ?_)
  refine r_aload_n 1 dX4_copyFrom_140 rfl ?_
  refine q_getR (e9 := (1, 0)) dX4_copyFrom_141 fd_X4_40 t1 rfl h (fun r29 tr29 h => ?_)
  refine r_iconst (v := 0) dX4_copyFrom_144 (by decide) ?_
  refine r_aload_n 0 dX4_copyFrom_145 rfl ?_
  refine q_getR (e9 := (1, 0)) dX4_copyFrom_146 fd_X4_40 t0 rfl h (fun r30 tr30 h => ?_)
  refine r_iconst (v := 0) dX4_copyFrom_149 (by decide) ?_
  refine r_iconst (v := 4) dX4_copyFrom_150 (by decide) ?_
  refine q_copyI dX4_copyFrom_151 cp_X4_82 tr29 tr30 (Nat.le_of_ble_eq_true rfl) (by omega) h (fun τ31 h => ?_)
  refine r_aload_n 1 dX4_copyFrom_154 rfl ?_
  refine q_getR (e9 := (1, 0)) dX4_copyFrom_155 fd_X4_43 t1 rfl h (fun r32 tr32 h => ?_)
  refine r_iconst (v := 0) dX4_copyFrom_158 (by decide) ?_
  refine r_aload_n 0 dX4_copyFrom_159 rfl ?_
  refine q_getR (e9 := (1, 0)) dX4_copyFrom_160 fd_X4_43 t0 rfl h (fun r33 tr33 h => ?_)
  refine r_iconst (v := 0) dX4_copyFrom_163 (by decide) ?_
  refine r_iconst (v := 4) dX4_copyFrom_164 (by decide) ?_
  refine q_copyI dX4_copyFrom_165 cp_X4_82 tr32 tr33 (Nat.le_of_ble_eq_true rfl) (by omega) h (fun τ34 h => ?_)
  refine r_aload_n 0 dX4_copyFrom_168 rfl ?_
  refine r_aload_n 1 dX4_copyFrom_169 rfl ?_
  refine r_getI dX4_copyFrom_170 fd_X4_66 t1 ?_
  refine q_putI dX4_copyFrom_173 fd_X4_66 t0 h (fun τ35 h => ?_)
  refine r_aload_n 1 dX4_copyFrom_176 rfl ?_
  refine q_getR (e9 := (1, 0)) dX4_copyFrom_177 fd_X4_46 t1 rfl h (fun r36 tr36 h => ?_)
  refine r_iconst (v := 0) dX4_copyFrom_180 (by decide) ?_
  refine r_aload_n 0 dX4_copyFrom_181 rfl ?_
  refine q_getR (e9 := (1, 0)) dX4_copyFrom_182 fd_X4_46 t0 rfl h (fun r37 tr37 h => ?_)
  refine r_iconst (v := 0) dX4_copyFrom_185 (by decide) ?_
  refine r_bipush (v := 12) dX4_copyFrom_186 (by decide) ?_
  refine q_copyI dX4_copyFrom_188 cp_X4_82 tr36 tr37 (Nat.le_of_ble_eq_true rfl) (by omega) h (fun τ38 h => ?_)
  refine r_aload_n 0 dX4_copyFrom_191 rfl ?_
  refine r_aload_n 1 dX4_copyFrom_192 rfl ?_
  refine r_getI dX4_copyFrom_193 fd_X4_69 t1 ?_
  refine q_putI dX4_copyFrom_196 fd_X4_69 t0 h (fun τ39 h => ?_)
  refine r_aload_n 0 dX4_copyFrom_199 rfl ?_
  refine q_getR (e9 := (0, 2)) dX4_copyFrom_200 fd_X4_52 t0 rfl h (fun r40 tr40 h => ?_)
  refine r_aload_n 1 dX4_copyFrom_203 rfl ?_
  refine q_getR (e9 := (0, 2)) dX4_copyFrom_204 fd_X4_52 t1 rfl h (fun r41 tr41 h => ?_)
  obtain ⟨τ42, eτ42, h⟩ := bd0_some h
  refine q_cVV [.ref (G.2.1 r41)] dX4_copyFrom_207 cv_X4_88 (ci := 2) rfl rfl tr40 rfl rfl (Nat.le_of_ble_eq_true rfl) (by omega) (kX2_copyFrom (d - 1) (by omega) r40 r41 tr40 tr41 τ42 eτ42) ?_
  refine r_aload_n 0 dX4_copyFrom_210 rfl ?_
  refine r_aload_n 1 dX4_copyFrom_211 rfl ?_
  refine r_getI dX4_copyFrom_212 fd_X4_56 t1 ?_
  refine q_putI dX4_copyFrom_215 fd_X4_56 t0 h (fun τ43 h => ?_)
  refine r_aload_n 0 dX4_copyFrom_218 rfl ?_
  refine r_aload_n 1 dX4_copyFrom_219 rfl ?_
  refine r_getI dX4_copyFrom_220 fd_X4_60 t1 ?_
  refine q_putI dX4_copyFrom_223 fd_X4_60 t0 h (fun τ44 h => ?_)
  refine r_aload_n 0 dX4_copyFrom_226 rfl ?_
  refine r_aload_n 1 dX4_copyFrom_227 rfl ?_
  refine r_getI dX4_copyFrom_228 fd_X4_75 t1 ?_
  refine q_putZ dX4_copyFrom_231 fd_X4_75 t0 h (fun τ45 h => ?_)
  refine r_aload_n 0 dX4_copyFrom_234 rfl ?_
  refine r_aload_n 1 dX4_copyFrom_235 rfl ?_
  refine r_getI dX4_copyFrom_236 fd_X4_79 t1 ?_
  refine q_putZ dX4_copyFrom_239 fd_X4_79 t0 h (fun τ46 h => ?_)
  obtain rfl := Option.some.inj h
  exact r_return dX4_copyFrom_242 rfl hQ (Nat.le_refl _) (Nat.le_refl _)
theorem sX4_placeOf_L3 {l : Launch} {G : gg} {Γ : ly} {d : Nat} {Q : Option Value → ly → mm → Prop} (hdd : 0 ≤ d) (σ : mm) (x0 : Nat) (x1 : Int32) (x2 : Int64) (t0 : tyOK Γ (4, 0) x0) {K : (Int32 ⊕ Unit) → Prop} (kx0 : ∀ (x4 : Int32), K (.inl x4) → WP l G yX4_placeOf cX4_placeOf 5 (some .int) d 0 0 Q 0 0 25 [(4, .int x4)] [] Γ σ) (kx1 : K (.inr ()) → WP l G yX4_placeOf cX4_placeOf 5 (some .int) d 0 0 Q 0 0 34 [] [] Γ σ) : ∀ (N : Nat) (s : Int32) (b : (Int32 ⊕ Unit)), loopN (fX4_placeOf_L3 Γ.2 σ x0 x1 x2) N s = some b → K b → WP l G yX4_placeOf cX4_placeOf 5 (some .int) d 0 0 Q 0 0 3 [(0, .ref (G.2.1 x0)), (1, .int x1), (2, .long x2), (4, .int s)] [] Γ σ := by
  refine r_loop (f := fX4_placeOf_L3 Γ.2 σ x0 x1 x2) (hlv := fun s => [(0, .ref (G.2.1 x0)), (1, .int x1), (2, .long x2), (4, .int s)]) (hsg := fun s => σ) ?_
  rintro x4 r h hb hx
  have hx0 : ∀ (x4 : Int32), r = .inr (.inl x4) → WP l G yX4_placeOf cX4_placeOf 5 (some .int) d 0 0 Q 0 0 25 [(4, .int x4)] [] Γ σ := fun x4 e => kx0 x4 (hx _ e)
  have hx1 : r = .inr (.inr ()) → WP l G yX4_placeOf cX4_placeOf 5 (some .int) d 0 0 Q 0 0 34 [] [] Γ σ := fun e => kx1  (hx _ e)
  unfold fX4_placeOf_L3 at h
  show WP l G yX4_placeOf cX4_placeOf 5 (some .int) d 0 0 Q 0 0 3 [(0, .ref (G.2.1 x0)), (1, .int x1), (2, .long x2), (4, .int x4)] [] Γ σ
  refine r_iload 3 dX4_placeOf_3 rfl ?_
  refine r_iload_n 1 dX4_placeOf_5 rfl ?_
  refine r_icmp_ge 34 dX4_placeOf_6 (by decide) h (fun _ h => ?_) (fun _ h => ?_)
  · obtain rfl := Option.some.inj h
    refine r_pick [] rfl ?_
    exact hx1  rfl
  · refine r_iload 3 dX4_placeOf_9 rfl ?_
    refine r_aload_n 0 dX4_placeOf_11 rfl ?_
    refine r_alen4 dX4_placeOf_12 t0 ?_
    refine r_icmp_ge 34 dX4_placeOf_13 (by decide) h (fun _ h => ?_) (fun _ h => ?_)
    · obtain rfl := Option.some.inj h
      refine r_pick [] rfl ?_
      exact hx1  rfl
    · refine r_aload_n 0 dX4_placeOf_16 rfl ?_
      refine r_iload 3 dX4_placeOf_17 rfl ?_
      refine q_lald dX4_placeOf_19 t0 h (fun v1 h => ?_)
      refine r_lload_n 2 dX4_placeOf_20 rfl ?_
      refine r_lcmp dX4_placeOf_21 ?_
      refine r_if_ne 28 dX4_placeOf_22 (by decide) h (fun _ h => ?_) (fun _ h => ?_)
      · refine q_iinc (v := 1) 3 (fun v2 => [(4, .int v2), (0, .ref (G.2.1 x0)), (1, .int x1), (2, .long x2)]) dX4_placeOf_28 rfl (by decide) (by decide) (fun _ => rfl) h (fun v2 h => ?_)
        refine r_goto 3 dX4_placeOf_31 (by decide) ?_
        obtain rfl := Option.some.inj h
        refine r_pick [1, 2, 3, 0] rfl ?_
        exact hb _ rfl
      · obtain rfl := Option.some.inj h
        refine r_pick [3] rfl ?_
        exact hx0 _ rfl
theorem tX4_placeOf_b34 {l : Launch} {G : gg} {Γ : ly} {d : Nat} {Q : Option Value → ly → mm → Prop} (hdd : 0 ≤ d) (σ : mm)     (r : Int32) (h : fX4_placeOf_b34 Γ.2 σ  = some r) (hQ : Q (some (.int r)) Γ σ) : WP l G yX4_placeOf cX4_placeOf 5 (some .int) d 0 0 Q 0 0 34 [] [] Γ σ := by
  unfold fX4_placeOf_b34 at h
  refine r_iconst (v := -1) dX4_placeOf_34 (by decide) ?_
  obtain rfl := Option.some.inj h
  exact r_ireturn dX4_placeOf_35 rfl hQ (Nat.le_refl _) (Nat.le_refl _)
theorem kX4_placeOf {l : Launch} {G : gg} {Γ : ly} {σ : mm} (d : Nat) (hdd : 0 ≤ d) (x0 : Nat) (x1 : Int32) (x2 : Int64) (t0 : tyOK Γ (4, 0) x0) (r : Int32) (h : fX4_placeOf Γ.2 σ x0 x1 x2 = some r) : CT l G yX4_placeOf cX4_placeOf 5 (some .int) d 0 0 [.ref (G.2.1 x0), .int x1, .long x2] Γ σ (PP (some (.int r)) Γ σ) := by
  refine CT.ofWP (by decide) (Nat.le_of_ble_eq_true rfl) ?_
  have hQ : PP (some (.int r)) Γ σ (some (.int r)) Γ σ := PP.self
  generalize PP (some (.int r)) Γ σ = Q at hQ ⊢
  show WP l G yX4_placeOf cX4_placeOf 5 (some .int) d 0 0 Q 0 0 0 [(0, .ref (G.2.1 x0)), (1, .int x1), (2, .long x2)] [] Γ σ
  unfold fX4_placeOf at h
  refine r_iconst (v := 0) dX4_placeOf_0 (by decide) ?_
  refine r_istore (lv' := [(4, .int (0 : Int32)), (0, .ref (G.2.1 x0)), (1, .int x1), (2, .long x2)]) dX4_placeOf_1 (by decide) rfl ?_
  obtain ⟨b1, eb1, h⟩ := bd0_some h
  refine r_pick [1, 2, 3, 0] rfl ?_
  refine sX4_placeOf_L3 hdd σ x0 x1 x2 t0 (K := fun b => b = b1) ?_ ?_ 1000 (0 : Int32) b1 eb1 rfl
  · rintro v2 rfl
    have h := cs2_0 h
    refine r_iload 0 dX4_placeOf_25 rfl ?_
    obtain rfl := Option.some.inj h
    exact r_ireturn dX4_placeOf_27 rfl hQ (Nat.le_refl _) (Nat.le_refl _)
  · rintro rfl
    have h := cs2_1 h
    exact tX4_placeOf_b34 hdd σ  _ h hQ
theorem kX4_personNamed {l : Launch} {G : gg} {Γ : ly} {σ : mm} (d : Nat) (hdd : 1 ≤ d) (x0 : Nat) (x1 : Int64) (t0 : tyOK Γ (0, 4) x0) (r : Int32) (h : fX4_personNamed Γ.2 σ x0 x1 = some r) : CT l G yX4_personNamed cX4_personNamed 3 (some .int) d 0 0 [.ref (G.2.1 x0), .long x1] Γ σ (PP (some (.int r)) Γ σ) := by
  refine CT.ofWP (by decide) (Nat.le_of_ble_eq_true rfl) ?_
  have hQ : PP (some (.int r)) Γ σ (some (.int r)) Γ σ := PP.self
  generalize PP (some (.int r)) Γ σ = Q at hQ ⊢
  show WP l G yX4_personNamed cX4_personNamed 3 (some .int) d 0 0 Q 0 0 0 [(0, .ref (G.2.1 x0)), (1, .long x1)] [] Γ σ
  unfold fX4_personNamed at h
  refine r_aload_n 0 dX4_personNamed_0 rfl ?_
  refine q_getR (e9 := (4, 0)) dX4_personNamed_1 fd_X4_9 t0 rfl h (fun r1 tr1 h => ?_)
  refine r_aload_n 0 dX4_personNamed_4 rfl ?_
  refine r_getI dX4_personNamed_5 fd_X4_63 t0 ?_
  refine r_lload_n 1 dX4_personNamed_8 rfl ?_
  obtain ⟨v2, ev2, h⟩ := bd0_some h
  refine q_cSI [.ref (G.2.1 r1), .int (σ.1 x0 6), .long x1] dX4_personNamed_9 cs_X4_92 rfl rfl (Nat.le_of_ble_eq_true rfl) (by omega) (kX4_placeOf (d - 1) (by omega) r1 (σ.1 x0 6) x1 tr1 v2 ev2) ?_
  obtain rfl := Option.some.inj h
  exact r_ireturn dX4_personNamed_12 rfl hQ (Nat.le_refl _) (Nat.le_refl _)
theorem kX4_glassNamed {l : Launch} {G : gg} {Γ : ly} {σ : mm} (d : Nat) (hdd : 1 ≤ d) (x0 : Nat) (x1 : Int64) (t0 : tyOK Γ (0, 4) x0) (r : Int32) (h : fX4_glassNamed Γ.2 σ x0 x1 = some r) : CT l G yX4_glassNamed cX4_glassNamed 3 (some .int) d 0 0 [.ref (G.2.1 x0), .long x1] Γ σ (PP (some (.int r)) Γ σ) := by
  refine CT.ofWP (by decide) (Nat.le_of_ble_eq_true rfl) ?_
  have hQ : PP (some (.int r)) Γ σ (some (.int r)) Γ σ := PP.self
  generalize PP (some (.int r)) Γ σ = Q at hQ ⊢
  show WP l G yX4_glassNamed cX4_glassNamed 3 (some .int) d 0 0 Q 0 0 0 [(0, .ref (G.2.1 x0)), (1, .long x1)] [] Γ σ
  unfold fX4_glassNamed at h
  refine r_aload_n 0 dX4_glassNamed_0 rfl ?_
  refine q_getR (e9 := (4, 0)) dX4_glassNamed_1 fd_X4_31 t0 rfl h (fun r1 tr1 h => ?_)
  refine r_aload_n 0 dX4_glassNamed_4 rfl ?_
  refine r_getI dX4_glassNamed_5 fd_X4_66 t0 ?_
  refine r_lload_n 1 dX4_glassNamed_8 rfl ?_
  obtain ⟨v2, ev2, h⟩ := bd0_some h
  refine q_cSI [.ref (G.2.1 r1), .int (σ.1 x0 12), .long x1] dX4_glassNamed_9 cs_X4_92 rfl rfl (Nat.le_of_ble_eq_true rfl) (by omega) (kX4_placeOf (d - 1) (by omega) r1 (σ.1 x0 12) x1 tr1 v2 ev2) ?_
  obtain rfl := Option.some.inj h
  exact r_ireturn dX4_glassNamed_12 rfl hQ (Nat.le_refl _) (Nat.le_refl _)
theorem tX4_isTold_b45 {l : Launch} {G : gg} {Γ : ly} {d : Nat} {Q : Option Value → ly → mm → Prop} (hdd : 2 ≤ d) (σ : mm)  (s0 : Int32)   (r : Int32) (h : fX4_isTold_b45 Γ.2 σ s0 = some r) (hQ : Q (some (.int r)) Γ σ) : WP l G yX4_isTold cX4_isTold 3 (some .boolean) d 0 0 Q 0 0 45 [] [.int s0] Γ σ := by
  unfold fX4_isTold_b45 at h
  obtain ⟨hbz, h⟩ := rZ_some h
  obtain rfl := Option.some.inj h
  exact r_zreturn dX4_isTold_45 rfl hbz hQ (Nat.le_refl _) (Nat.le_refl _)
theorem tX4_isTold_b40 {l : Launch} {G : gg} {Γ : ly} {d : Nat} {Q : Option Value → ly → mm → Prop} (hdd : 2 ≤ d) (σ : mm)     (r : Int32) (h : fX4_isTold_b40 Γ.2 σ  = some r) (hQ : Q (some (.int r)) Γ σ) : WP l G yX4_isTold cX4_isTold 3 (some .boolean) d 0 0 Q 0 0 40 [] [] Γ σ := by
  unfold fX4_isTold_b40 at h
  refine r_iconst (v := 1) dX4_isTold_40 (by decide) ?_
  refine r_goto 45 dX4_isTold_41 (by decide) ?_
  exact tX4_isTold_b45 hdd σ (1 : Int32)  _ h hQ
theorem kX4_isTold {l : Launch} {G : gg} {Γ : ly} {σ : mm} (d : Nat) (hdd : 2 ≤ d) (x0 : Nat) (x1 : Int64) (t0 : tyOK Γ (0, 4) x0) (r : Int32) (h : fX4_isTold Γ.2 σ x0 x1 = some r) : CT l G yX4_isTold cX4_isTold 3 (some .boolean) d 0 0 [.ref (G.2.1 x0), .long x1] Γ σ (PP (some (.int r)) Γ σ) := by
  refine CT.ofWP (by decide) (Nat.le_of_ble_eq_true rfl) ?_
  have hQ : PP (some (.int r)) Γ σ (some (.int r)) Γ σ := PP.self
  generalize PP (some (.int r)) Γ σ = Q at hQ ⊢
  show WP l G yX4_isTold cX4_isTold 3 (some .boolean) d 0 0 Q 0 0 0 [(0, .ref (G.2.1 x0)), (1, .long x1)] [] Γ σ
  unfold fX4_isTold at h
  refine r_aload_n 0 dX4_isTold_0 rfl ?_
  refine r_lload_n 1 dX4_isTold_1 rfl ?_
  obtain ⟨v1, ev1, h⟩ := bd0_some h
  refine q_cVI [.long x1] dX4_isTold_2 cv_X4_96 (ci := 4) rfl rfl t0 rfl rfl (Nat.le_of_ble_eq_true rfl) (by omega) (kX4_personNamed (d - 1) (by omega) x0 x1 t0 v1 ev1) ?_
  refine r_iconst (v := -1) dX4_isTold_5 (by decide) ?_
  refine r_icmp_ne 40 dX4_isTold_6 (by decide) h (fun _ h => ?_) (fun _ h => ?_)
  · refine r_pick [] rfl ?_
    exact tX4_isTold_b40 hdd σ  _ h hQ
  · refine r_aload_n 0 dX4_isTold_9 rfl ?_
    refine r_lload_n 1 dX4_isTold_10 rfl ?_
    obtain ⟨v2, ev2, h⟩ := bd0_some h
    refine q_cVI [.long x1] dX4_isTold_11 cv_X4_100 (ci := 4) rfl rfl t0 rfl rfl (Nat.le_of_ble_eq_true rfl) (by omega) (kX4_glassNamed (d - 1) (by omega) x0 x1 t0 v2 ev2) ?_
    refine r_iconst (v := -1) dX4_isTold_14 (by decide) ?_
    refine r_icmp_ne 40 dX4_isTold_15 (by decide) h (fun _ h => ?_) (fun _ h => ?_)
    · refine r_pick [] rfl ?_
      exact tX4_isTold_b40 hdd σ  _ h hQ
    · refine r_aload_n 0 dX4_isTold_18 rfl ?_
      refine q_getR (e9 := (0, 2)) dX4_isTold_19 fd_X4_52 t0 rfl h (fun r3 tr3 h => ?_)
      refine q_getR (e9 := (4, 0)) dX4_isTold_22 fd_X4_103 tr3 rfl h (fun r4 tr4 h => ?_)
      refine r_aload_n 0 dX4_isTold_25 rfl ?_
      refine q_getR (e9 := (0, 2)) dX4_isTold_26 fd_X4_52 t0 rfl h (fun r5 tr5 h => ?_)
      refine r_getI dX4_isTold_29 fd_X4_72 tr5 ?_
      refine r_lload_n 1 dX4_isTold_32 rfl ?_
      obtain ⟨v6, ev6, h⟩ := bd0_some h
      refine q_cSI [.ref (G.2.1 r4), .int (σ.1 r5 4), .long x1] dX4_isTold_33 cs_X4_92 rfl rfl (Nat.le_of_ble_eq_true rfl) (by omega) (kX4_placeOf (d - 1) (by omega) r4 (σ.1 r5 4) x1 tr4 v6 ev6) ?_
      refine r_iconst (v := -1) dX4_isTold_36 (by decide) ?_
      refine r_icmp_eq 44 dX4_isTold_37 (by decide) h (fun _ h => ?_) (fun _ h => ?_)
      · refine r_iconst (v := 0) dX4_isTold_44 (by decide) ?_
        refine r_pick [] rfl ?_
        exact tX4_isTold_b45 hdd σ (0 : Int32)  _ h hQ
      · refine r_pick [] rfl ?_
        exact tX4_isTold_b40 hdd σ  _ h hQ
theorem kX8_fails {l : Launch} {G : gg} {Γ : ly} {σ : mm} (d : Nat) (hdd : 0 ≤ d) (x0 : Nat) (x1 : Int32) (t0 : tyOK Γ (0, 8) x0) (r : (Int32 × mm)) (h : fX8_fails Γ.2 σ x0 x1 = some r) : CT l G yX8_fails cX8_fails 2 (some .boolean) d 0 0 [.ref (G.2.1 x0), .int x1] Γ σ (PP (some (.int r.1)) Γ r.2) := by
  refine CT.ofWP (by decide) (Nat.le_of_ble_eq_true rfl) ?_
  have hQ : PP (some (.int r.1)) Γ r.2 (some (.int r.1)) Γ r.2 := PP.self
  generalize PP (some (.int r.1)) Γ r.2 = Q at hQ ⊢
  show WP l G yX8_fails cX8_fails 2 (some .boolean) d 0 0 Q 0 0 0 [(0, .ref (G.2.1 x0)), (1, .int x1)] [] Γ σ
  unfold fX8_fails at h
  refine r_aload_n 0 dX8_fails_0 rfl ?_
  refine r_iload_n 1 dX8_fails_1 rfl ?_
  refine q_putI dX8_fails_2 fd_X8_32 t0 h (fun τ1 h => ?_)
  refine r_aload_n 0 dX8_fails_5 rfl ?_
  refine r_aload_n 0 dX8_fails_6 rfl ?_
  refine r_getI dX8_fails_7 fd_X8_38 t0 ?_
  refine q_putI dX8_fails_10 fd_X8_35 t0 h (fun τ2 h => ?_)
  refine r_iconst (v := 0) dX8_fails_13 (by decide) ?_
  obtain rfl := Option.some.inj h
  exact r_zreturn dX8_fails_14 rfl (by decide) hQ (Nat.le_refl _) (Nat.le_refl _)
theorem tX8_isSign_b41 {l : Launch} {G : gg} {Γ : ly} {d : Nat} {Q : Option Value → ly → mm → Prop} (hdd : 0 ≤ d) (σ : mm)  (s0 : Int32)   (r : Int32) (h : fX8_isSign_b41 Γ.2 σ s0 = some r) (hQ : Q (some (.int r)) Γ σ) : WP l G yX8_isSign cX8_isSign 1 (some .boolean) d 0 0 Q 0 0 41 [] [.int s0] Γ σ := by
  unfold fX8_isSign_b41 at h
  obtain ⟨hbz, h⟩ := rZ_some h
  obtain rfl := Option.some.inj h
  exact r_zreturn dX8_isSign_41 rfl hbz hQ (Nat.le_refl _) (Nat.le_refl _)
theorem tX8_isSign_b36 {l : Launch} {G : gg} {Γ : ly} {d : Nat} {Q : Option Value → ly → mm → Prop} (hdd : 0 ≤ d) (σ : mm)     (r : Int32) (h : fX8_isSign_b36 Γ.2 σ  = some r) (hQ : Q (some (.int r)) Γ σ) : WP l G yX8_isSign cX8_isSign 1 (some .boolean) d 0 0 Q 0 0 36 [] [] Γ σ := by
  unfold fX8_isSign_b36 at h
  refine r_iconst (v := 1) dX8_isSign_36 (by decide) ?_
  refine r_goto 41 dX8_isSign_37 (by decide) ?_
  exact tX8_isSign_b41 hdd σ (1 : Int32)  _ h hQ
theorem kX8_isSign {l : Launch} {G : gg} {Γ : ly} {σ : mm} (d : Nat) (hdd : 0 ≤ d) (x0 : Int32)  (r : Int32) (h : fX8_isSign Γ.2 σ x0 = some r) : CT l G yX8_isSign cX8_isSign 1 (some .boolean) d 0 0 [.int x0] Γ σ (PP (some (.int r)) Γ σ) := by
  refine CT.ofWP (by decide) (Nat.le_of_ble_eq_true rfl) ?_
  have hQ : PP (some (.int r)) Γ σ (some (.int r)) Γ σ := PP.self
  generalize PP (some (.int r)) Γ σ = Q at hQ ⊢
  show WP l G yX8_isSign cX8_isSign 1 (some .boolean) d 0 0 Q 0 0 0 [(0, .int x0)] [] Γ σ
  unfold fX8_isSign at h
  refine r_iload_n 0 dX8_isSign_0 rfl ?_
  refine r_bipush (v := 59) dX8_isSign_1 (by decide) ?_
  refine r_icmp_eq 36 dX8_isSign_3 (by decide) h (fun _ h => ?_) (fun _ h => ?_)
  · refine r_pick [] rfl ?_
    exact tX8_isSign_b36 hdd σ  _ h hQ
  · refine r_iload_n 0 dX8_isSign_6 rfl ?_
    refine r_bipush (v := 60) dX8_isSign_7 (by decide) ?_
    refine r_icmp_eq 36 dX8_isSign_9 (by decide) h (fun _ h => ?_) (fun _ h => ?_)
    · refine r_pick [] rfl ?_
      exact tX8_isSign_b36 hdd σ  _ h hQ
    · refine r_iload_n 0 dX8_isSign_12 rfl ?_
      refine r_bipush (v := 61) dX8_isSign_13 (by decide) ?_
      refine r_icmp_eq 36 dX8_isSign_15 (by decide) h (fun _ h => ?_) (fun _ h => ?_)
      · refine r_pick [] rfl ?_
        exact tX8_isSign_b36 hdd σ  _ h hQ
      · refine r_iload_n 0 dX8_isSign_18 rfl ?_
        refine r_bipush (v := 62) dX8_isSign_19 (by decide) ?_
        refine r_icmp_eq 36 dX8_isSign_21 (by decide) h (fun _ h => ?_) (fun _ h => ?_)
        · refine r_pick [] rfl ?_
          exact tX8_isSign_b36 hdd σ  _ h hQ
        · refine r_iload_n 0 dX8_isSign_24 rfl ?_
          refine r_bipush (v := 40) dX8_isSign_25 (by decide) ?_
          refine r_icmp_eq 36 dX8_isSign_27 (by decide) h (fun _ h => ?_) (fun _ h => ?_)
          · refine r_pick [] rfl ?_
            exact tX8_isSign_b36 hdd σ  _ h hQ
          · refine r_iload_n 0 dX8_isSign_30 rfl ?_
            refine r_bipush (v := 41) dX8_isSign_31 (by decide) ?_
            refine r_icmp_ne 40 dX8_isSign_33 (by decide) h (fun _ h => ?_) (fun _ h => ?_)
            · refine r_iconst (v := 0) dX8_isSign_40 (by decide) ?_
              refine r_pick [] rfl ?_
              exact tX8_isSign_b41 hdd σ (0 : Int32)  _ h hQ
            · refine r_pick [] rfl ?_
              exact tX8_isSign_b36 hdd σ  _ h hQ
theorem tX8_readRun_b138 {l : Launch} {G : gg} {Γ : ly} {d : Nat} {Q : Option Value → ly → mm → Prop} (hdd : 0 ≤ d) (σ : mm) (x0 : Nat) (x1 : Int32) (x2 : Int32) (x3 : Int32) (s0 : Nat) (s1 : Int32) (t0 : tyOK Γ (0, 8) x0) (u0 : tyOK Γ (0, 8) s0) (r : ((Int32 × Int32 × Int32 × mm) ⊕ (Int32 × Int32 × mm))) (h : fX8_readRun_b138 Γ.2 σ x0 x1 x2 x3 s0 s1 = some r) (hb : ∀ (x1 : Int32) (x2 : Int32) (x3 : Int32) (σ9 : mm), r = .inl (x1, x2, x3, σ9) → WP l G yX8_readRun cX8_readRun 5 (none) d 0 0 Q 0 0 16 [(0, .ref (G.2.1 x0)), (1, .int x1), (2, .int x2), (3, .int x3)] [] Γ σ9) (hx0 : ∀ (x1 : Int32) (x2 : Int32) (σ9 : mm), r = .inr (x1, x2, σ9) → WP l G yX8_readRun cX8_readRun 5 (none) d 0 0 Q 0 0 144 [(0, .ref (G.2.1 x0)), (1, .int x1), (2, .int x2)] [] Γ σ9) : WP l G yX8_readRun cX8_readRun 5 (none) d 0 0 Q 0 0 138 [(0, .ref (G.2.1 x0)), (1, .int x1), (2, .int x2), (3, .int x3)] [.int s1, .ref (G.2.1 s0)] Γ σ := by
  unfold fX8_readRun_b138 at h
  refine q_putI dX8_readRun_138 fd_X8_29 u0 h (fun τ1 h => ?_)
  refine r_goto 16 dX8_readRun_141 (by decide) ?_
  obtain rfl := Option.some.inj h
  exact hb _ _ _ _ rfl
theorem tX8_readRun_b120 {l : Launch} {G : gg} {Γ : ly} {d : Nat} {Q : Option Value → ly → mm → Prop} (hdd : 0 ≤ d) (σ : mm) (x0 : Nat) (x1 : Int32) (x2 : Int32) (x3 : Int32)  (t0 : tyOK Γ (0, 8) x0)  (r : ((Int32 × Int32 × Int32 × mm) ⊕ (Int32 × Int32 × mm))) (h : fX8_readRun_b120 Γ.2 σ x0 x1 x2 x3 = some r) (hb : ∀ (x1 : Int32) (x2 : Int32) (x3 : Int32) (σ9 : mm), r = .inl (x1, x2, x3, σ9) → WP l G yX8_readRun cX8_readRun 5 (none) d 0 0 Q 0 0 16 [(0, .ref (G.2.1 x0)), (1, .int x1), (2, .int x2), (3, .int x3)] [] Γ σ9) (hx0 : ∀ (x1 : Int32) (x2 : Int32) (σ9 : mm), r = .inr (x1, x2, σ9) → WP l G yX8_readRun cX8_readRun 5 (none) d 0 0 Q 0 0 144 [(0, .ref (G.2.1 x0)), (1, .int x1), (2, .int x2)] [] Γ σ9) : WP l G yX8_readRun cX8_readRun 5 (none) d 0 0 Q 0 0 120 [(0, .ref (G.2.1 x0)), (1, .int x1), (2, .int x2), (3, .int x3)] [] Γ σ := by
  unfold fX8_readRun_b120 at h
  refine r_aload_n 0 dX8_readRun_120 rfl ?_
  refine r_iload_n 3 dX8_readRun_121 rfl ?_
  refine r_if_eq 134 dX8_readRun_122 (by decide) h (fun _ h => ?_) (fun _ h => ?_)
  · refine r_aload_n 0 dX8_readRun_134 rfl ?_
    refine r_getI dX8_readRun_135 fd_X8_29 t0 ?_
    exact tX8_readRun_b138 hdd σ x0 x1 x2 x3 x0 (σ.1 x0 3) t0 t0 _ h hb hx0
  · refine r_aload_n 0 dX8_readRun_125 rfl ?_
    refine r_getI dX8_readRun_126 fd_X8_29 t0 ?_
    refine r_iconst (v := 1) dX8_readRun_129 (by decide) ?_
    refine r_iadd dX8_readRun_130 ?_
    refine r_goto 138 dX8_readRun_131 (by decide) ?_
    exact tX8_readRun_b138 hdd σ x0 x1 x2 x3 x0 ((σ.1 x0 3) + (1 : Int32)) t0 t0 _ h hb hx0
theorem tX8_readRun_b118 {l : Launch} {G : gg} {Γ : ly} {d : Nat} {Q : Option Value → ly → mm → Prop} (hdd : 0 ≤ d) (σ : mm) (x0 : Nat) (x1 : Int32) (x2 : Int32)  (t0 : tyOK Γ (0, 8) x0)  (r : ((Int32 × Int32 × Int32 × mm) ⊕ (Int32 × Int32 × mm))) (h : fX8_readRun_b118 Γ.2 σ x0 x1 x2 = some r) (hb : ∀ (x1 : Int32) (x2 : Int32) (x3 : Int32) (σ9 : mm), r = .inl (x1, x2, x3, σ9) → WP l G yX8_readRun cX8_readRun 5 (none) d 0 0 Q 0 0 16 [(0, .ref (G.2.1 x0)), (1, .int x1), (2, .int x2), (3, .int x3)] [] Γ σ9) (hx0 : ∀ (x1 : Int32) (x2 : Int32) (σ9 : mm), r = .inr (x1, x2, σ9) → WP l G yX8_readRun cX8_readRun 5 (none) d 0 0 Q 0 0 144 [(0, .ref (G.2.1 x0)), (1, .int x1), (2, .int x2)] [] Γ σ9) : WP l G yX8_readRun cX8_readRun 5 (none) d 0 0 Q 0 0 118 [(0, .ref (G.2.1 x0)), (1, .int x1), (2, .int x2)] [] Γ σ := by
  unfold fX8_readRun_b118 at h
  refine r_iconst (v := 0) dX8_readRun_118 (by decide) ?_
  refine r_istore_n (lv' := [(3, .int (0 : Int32)), (0, .ref (G.2.1 x0)), (1, .int x1), (2, .int x2)]) dX8_readRun_119 (by decide) rfl ?_
  refine r_pick [1, 2, 3, 0] rfl ?_
  exact tX8_readRun_b120 hdd σ x0 x1 x2 (0 : Int32) t0 _ h hb hx0
theorem tX8_readRun_b81 {l : Launch} {G : gg} {Γ : ly} {d : Nat} {Q : Option Value → ly → mm → Prop} (hdd : 0 ≤ d) (σ : mm) (x0 : Nat) (x1 : Int32) (x2 : Int32) (x3 : Int32) (x4 : Int32)  (t0 : tyOK Γ (0, 8) x0)  (r : ((Int32 × Int32 × Int32 × mm) ⊕ (Int32 × Int32 × mm))) (h : fX8_readRun_b81 Γ.2 σ x0 x1 x2 x3 x4 = some r) (hb : ∀ (x1 : Int32) (x2 : Int32) (x3 : Int32) (σ9 : mm), r = .inl (x1, x2, x3, σ9) → WP l G yX8_readRun cX8_readRun 5 (none) d 0 0 Q 0 0 16 [(0, .ref (G.2.1 x0)), (1, .int x1), (2, .int x2), (3, .int x3)] [] Γ σ9) (hx0 : ∀ (x1 : Int32) (x2 : Int32) (σ9 : mm), r = .inr (x1, x2, σ9) → WP l G yX8_readRun cX8_readRun 5 (none) d 0 0 Q 0 0 144 [(0, .ref (G.2.1 x0)), (1, .int x1), (2, .int x2)] [] Γ σ9) : WP l G yX8_readRun cX8_readRun 5 (none) d 0 0 Q 0 0 81 [(0, .ref (G.2.1 x0)), (1, .int x1), (2, .int x2), (3, .int x3), (4, .int x4)] [] Γ σ := by
  unfold fX8_readRun_b81 at h
  refine r_iload 4 dX8_readRun_81 rfl ?_
  refine r_bipush (v := 48) dX8_readRun_83 (by decide) ?_
  refine r_icmp_lt 118 dX8_readRun_85 (by decide) h (fun _ h => ?_) (fun _ h => ?_)
  · refine r_pick [0, 1, 2] rfl ?_
    exact tX8_readRun_b118 hdd σ x0 x1 x2 t0 _ h hb hx0
  · refine r_iload 4 dX8_readRun_88 rfl ?_
    refine r_bipush (v := 57) dX8_readRun_90 (by decide) ?_
    refine r_icmp_gt 118 dX8_readRun_92 (by decide) h (fun _ h => ?_) (fun _ h => ?_)
    · refine r_pick [0, 1, 2] rfl ?_
      exact tX8_readRun_b118 hdd σ x0 x1 x2 t0 _ h hb hx0
    · refine q_iinc (v := 1) 2 (fun v1 => [(2, .int v1), (0, .ref (G.2.1 x0)), (1, .int x1), (3, .int x3), (4, .int x4)]) dX8_readRun_95 rfl (by decide) (by decide) (fun _ => rfl) h (fun v1 h => ?_)
      refine r_aload_n 1 dX8_readRun_98 rfl ?_
      refine r_aload_n 1 dX8_readRun_99 rfl ?_
      refine r_getI dX8_readRun_100 fd_X8_59 t0 ?_
      refine r_bipush (v := 10) dX8_readRun_103 (by decide) ?_
      refine r_imul dX8_readRun_105 ?_
      refine r_iload 4 dX8_readRun_106 rfl ?_
      refine r_iadd dX8_readRun_108 ?_
      refine r_bipush (v := 48) dX8_readRun_109 (by decide) ?_
      refine r_isub dX8_readRun_111 ?_
      refine q_putI dX8_readRun_112 fd_X8_59 t0 h (fun τ2 h => ?_)
      refine r_goto 120 dX8_readRun_115 (by decide) ?_
      refine r_pick [1, 2, 0, 3] rfl ?_
      exact tX8_readRun_b120 hdd τ2 x0 x1 v1 x3 t0 _ h hb hx0
theorem sX8_readRun_L16 {l : Launch} {G : gg} {Γ : ly} {d : Nat} {Q : Option Value → ly → mm → Prop} (hdd : 0 ≤ d) (x0 : Nat) (t0 : tyOK Γ (0, 8) x0) {K : (Int32 × Int32 × mm) → Prop} (kx0 : ∀ (x1 : Int32) (x2 : Int32) (σ9 : mm), K (x1, x2, σ9) → WP l G yX8_readRun cX8_readRun 5 (none) d 0 0 Q 0 0 144 [(0, .ref (G.2.1 x0)), (1, .int x1), (2, .int x2)] [] Γ σ9) : ∀ (N : Nat) (s : (Int32 × Int32 × Int32 × mm)) (b : (Int32 × Int32 × mm)), loopN (fX8_readRun_L16 Γ.2 x0) N s = some b → K b → WP l G yX8_readRun cX8_readRun 5 (none) d 0 0 Q 0 0 16 [(0, .ref (G.2.1 x0)), (1, .int s.1), (2, .int s.2.1), (3, .int s.2.2.1)] [] Γ s.2.2.2 := by
  refine r_loop (f := fX8_readRun_L16 Γ.2 x0) (hlv := fun s => [(0, .ref (G.2.1 x0)), (1, .int s.1), (2, .int s.2.1), (3, .int s.2.2.1)]) (hsg := fun s => s.2.2.2) ?_
  rintro ⟨x1, x2, x3, σ⟩ r h hb hx
  have hb : ∀ (x1 : Int32) (x2 : Int32) (x3 : Int32) (σ : mm), r = .inl (x1, x2, x3, σ) → WP l G yX8_readRun cX8_readRun 5 (none) d 0 0 Q 0 0 16 [(0, .ref (G.2.1 x0)), (1, .int x1), (2, .int x2), (3, .int x3)] [] Γ σ := fun x1 x2 x3 σ e => hb (x1, x2, x3, σ) e
  have hx0 : ∀ (x1 : Int32) (x2 : Int32) (σ9 : mm), r = .inr (x1, x2, σ9) → WP l G yX8_readRun cX8_readRun 5 (none) d 0 0 Q 0 0 144 [(0, .ref (G.2.1 x0)), (1, .int x1), (2, .int x2)] [] Γ σ9 := fun x1 x2 σ9 e => kx0 x1 x2 σ9 (hx _ e)
  unfold fX8_readRun_L16 at h
  have h := un4_some h
  show WP l G yX8_readRun cX8_readRun 5 (none) d 0 0 Q 0 0 16 [(0, .ref (G.2.1 x0)), (1, .int x1), (2, .int x2), (3, .int x3)] [] Γ σ
  refine r_iload_n 3 dX8_readRun_16 rfl ?_
  refine r_if_eq 144 dX8_readRun_17 (by decide) h (fun _ h => ?_) (fun _ h => ?_)
  · obtain rfl := Option.some.inj h
    refine r_pick [0, 1, 2] rfl ?_
    exact hx0 _ _ _ rfl
  · refine r_aload_n 0 dX8_readRun_20 rfl ?_
    refine r_getI dX8_readRun_21 fd_X8_29 t0 ?_
    refine r_aload_n 0 dX8_readRun_24 rfl ?_
    refine r_getI dX8_readRun_25 fd_X8_22 t0 ?_
    refine r_icmp_ge 144 dX8_readRun_28 (by decide) h (fun _ h => ?_) (fun _ h => ?_)
    · obtain rfl := Option.some.inj h
      refine r_pick [0, 1, 2] rfl ?_
      exact hx0 _ _ _ rfl
    · refine r_aload_n 0 dX8_readRun_31 rfl ?_
      refine q_getR (e9 := (2, 0)) dX8_readRun_32 fd_X8_9 t0 rfl h (fun r1 tr1 h => ?_)
      refine r_aload_n 0 dX8_readRun_35 rfl ?_
      refine r_getI dX8_readRun_36 fd_X8_29 t0 ?_
      refine q_bald dX8_readRun_39 tr1 h (fun v2 h => ?_)
      refine r_istore (lv' := [(4, .int v2), (0, .ref (G.2.1 x0)), (1, .int x1), (2, .int x2), (3, .int x3)]) dX8_readRun_40 (by decide) rfl ?_
      refine r_iload 0 dX8_readRun_42 rfl ?_
      refine r_bipush (v := 97) dX8_readRun_44 (by decide) ?_
      refine r_icmp_lt 81 dX8_readRun_46 (by decide) h (fun _ h => ?_) (fun _ h => ?_)
      · refine r_pick [1, 2, 3, 4, 0] rfl ?_
        exact tX8_readRun_b81 hdd σ x0 x1 x2 x3 v2 t0 _ h hb hx0
      · refine r_iload 0 dX8_readRun_49 rfl ?_
        refine r_bipush (v := 122) dX8_readRun_51 (by decide) ?_
        refine r_icmp_gt 81 dX8_readRun_53 (by decide) h (fun _ h => ?_) (fun _ h => ?_)
        · refine r_pick [1, 2, 3, 4, 0] rfl ?_
          exact tX8_readRun_b81 hdd σ x0 x1 x2 x3 v2 t0 _ h hb hx0
        · refine q_iinc (v := 1) 2 (fun v3 => [(1, .int v3), (4, .int v2), (0, .ref (G.2.1 x0)), (2, .int x2), (3, .int x3)]) dX8_readRun_56 rfl (by decide) (by decide) (fun _ => rfl) h (fun v3 h => ?_)
          refine r_aload_n 2 dX8_readRun_59 rfl ?_
          refine r_aload_n 2 dX8_readRun_60 rfl ?_
          refine r_getL dX8_readRun_61 fd_X8_51 t0 ?_
          refine r_iconst (v := 5) dX8_readRun_64 (by decide) ?_
          refine r_lshl dX8_readRun_65 ?_
          refine r_iload 1 dX8_readRun_66 rfl ?_
          refine r_bipush (v := 97) dX8_readRun_68 (by decide) ?_
          refine r_isub dX8_readRun_70 ?_
          refine r_iconst (v := 1) dX8_readRun_71 (by decide) ?_
          refine r_iadd dX8_readRun_72 ?_
          refine r_i2l dX8_readRun_73 ?_
          refine r_lor dX8_readRun_74 ?_
          refine q_putL dX8_readRun_75 fd_X8_51 t0 h (fun τ4 h => ?_)
          refine r_goto 120 dX8_readRun_78 (by decide) ?_
          refine r_pick [2, 0, 3, 4] rfl ?_
          exact tX8_readRun_b120 hdd τ4 x0 v3 x2 x3 t0 _ h hb hx0
theorem tX8_readRun_b189 {l : Launch} {G : gg} {Γ : ly} {d : Nat} {Q : Option Value → ly → mm → Prop} (hdd : 0 ≤ d) (σ : mm)     (r : mm) (h : fX8_readRun_b189 Γ.2 σ  = some r) (hQ : Q none Γ r) : WP l G yX8_readRun cX8_readRun 5 (none) d 0 0 Q 0 0 189 [] [] Γ σ := by
  unfold fX8_readRun_b189 at h
  obtain rfl := Option.some.inj h
  exact r_return dX8_readRun_189 rfl hQ (Nat.le_refl _) (Nat.le_refl _)
theorem tX8_readRun_b171 {l : Launch} {G : gg} {Γ : ly} {d : Nat} {Q : Option Value → ly → mm → Prop} (hdd : 0 ≤ d) (σ : mm) (x0 : Nat) (x1 : Int32) (x2 : Int32)  (t0 : tyOK Γ (0, 8) x0)  (r : mm) (h : fX8_readRun_b171 Γ.2 σ x0 x1 x2 = some r) (hQ : Q none Γ r) : WP l G yX8_readRun cX8_readRun 5 (none) d 0 0 Q 0 0 171 [(0, .ref (G.2.1 x0)), (1, .int x1), (2, .int x2)] [] Γ σ := by
  unfold fX8_readRun_b171 at h
  refine r_iload_n 1 dX8_readRun_171 rfl ?_
  refine r_if_ne 189 dX8_readRun_172 (by decide) h (fun _ h => ?_) (fun _ h => ?_)
  · refine r_pick [] rfl ?_
    exact tX8_readRun_b189 hdd σ  _ h hQ
  · refine r_iload_n 2 dX8_readRun_175 rfl ?_
    refine r_if_le 189 dX8_readRun_176 (by decide) h (fun _ h => ?_) (fun _ h => ?_)
    · refine r_pick [] rfl ?_
      exact tX8_readRun_b189 hdd σ  _ h hQ
    · refine r_iload_n 2 dX8_readRun_179 rfl ?_
      refine r_iconst (v := 3) dX8_readRun_180 (by decide) ?_
      refine r_icmp_gt 189 dX8_readRun_181 (by decide) h (fun _ h => ?_) (fun _ h => ?_)
      · refine r_pick [] rfl ?_
        exact tX8_readRun_b189 hdd σ  _ h hQ
      · refine r_aload_n 0 dX8_readRun_184 rfl ?_
        refine r_iconst (v := 3) dX8_readRun_185 (by decide) ?_
        refine q_putI dX8_readRun_186 fd_X8_41 t0 h (fun τ1 h => ?_)
        refine r_pick [] rfl ?_
        exact tX8_readRun_b189 hdd τ1  _ h hQ
theorem tX8_readRun_b144 {l : Launch} {G : gg} {Γ : ly} {d : Nat} {Q : Option Value → ly → mm → Prop} (hdd : 0 ≤ d) (σ : mm) (x0 : Nat) (x1 : Int32) (x2 : Int32)  (t0 : tyOK Γ (0, 8) x0)  (r : mm) (h : fX8_readRun_b144 Γ.2 σ x0 x1 x2 = some r) (hQ : Q none Γ r) : WP l G yX8_readRun cX8_readRun 5 (none) d 0 0 Q 0 0 144 [(0, .ref (G.2.1 x0)), (1, .int x1), (2, .int x2)] [] Γ σ := by
  unfold fX8_readRun_b144 at h
  refine r_aload_n 0 dX8_readRun_144 rfl ?_
  refine r_iconst (v := 1) dX8_readRun_145 (by decide) ?_
  refine q_putI dX8_readRun_146 fd_X8_41 t0 h (fun τ1 h => ?_)
  refine r_iload_n 2 dX8_readRun_149 rfl ?_
  refine r_if_ne 171 dX8_readRun_150 (by decide) h (fun _ h => ?_) (fun _ h => ?_)
  · exact tX8_readRun_b171 hdd τ1 x0 x1 x2 t0 _ h hQ
  · refine r_iload_n 1 dX8_readRun_153 rfl ?_
    refine r_if_le 171 dX8_readRun_154 (by decide) h (fun _ h => ?_) (fun _ h => ?_)
    · exact tX8_readRun_b171 hdd τ1 x0 x1 x2 t0 _ h hQ
    · refine r_iload_n 1 dX8_readRun_157 rfl ?_
      refine r_bipush (v := 7) dX8_readRun_158 (by decide) ?_
      refine r_icmp_gt 171 dX8_readRun_160 (by decide) h (fun _ h => ?_) (fun _ h => ?_)
      · exact tX8_readRun_b171 hdd τ1 x0 x1 x2 t0 _ h hQ
      · refine r_aload_n 0 dX8_readRun_163 rfl ?_
        refine r_iconst (v := 2) dX8_readRun_164 (by decide) ?_
        refine q_putI dX8_readRun_165 fd_X8_41 t0 h (fun τ2 h => ?_)
        refine r_goto 189 dX8_readRun_168 (by decide) ?_
        refine r_pick [] rfl ?_
        exact tX8_readRun_b189 hdd τ2  _ h hQ
theorem kX8_readRun {l : Launch} {G : gg} {Γ : ly} {σ : mm} (d : Nat) (hdd : 0 ≤ d) (x0 : Nat) (t0 : tyOK Γ (0, 8) x0) (r : mm) (h : fX8_readRun Γ.2 σ x0 = some r) : CT l G yX8_readRun cX8_readRun 5 (none) d 0 0 [.ref (G.2.1 x0)] Γ σ (PP none Γ r) := by
  refine CT.ofWP (by decide) (Nat.le_of_ble_eq_true rfl) ?_
  have hQ : PP none Γ r none Γ r := PP.self
  generalize PP none Γ r = Q at hQ ⊢
  show WP l G yX8_readRun cX8_readRun 5 (none) d 0 0 Q 0 0 0 [(0, .ref (G.2.1 x0))] [] Γ σ
  unfold fX8_readRun at h
  refine r_iconst (v := 0) dX8_readRun_0 (by decide) ?_
  refine r_istore_n (lv' := [(1, .int (0 : Int32)), (0, .ref (G.2.1 x0))]) dX8_readRun_1 (by decide) rfl ?_
  refine r_iconst (v := 0) dX8_readRun_2 (by decide) ?_
  refine r_istore_n (lv' := [(2, .int (0 : Int32)), (1, .int (0 : Int32)), (0, .ref (G.2.1 x0))]) dX8_readRun_3 (by decide) rfl ?_
  refine r_aload_n 2 dX8_readRun_4 rfl ?_
  refine r_lconst (v := 0) dX8_readRun_5 (by decide) ?_
  refine q_putL dX8_readRun_6 fd_X8_51 t0 h (fun τ1 h => ?_)
  refine r_aload_n 2 dX8_readRun_9 rfl ?_
  refine r_iconst (v := 0) dX8_readRun_10 (by decide) ?_
  refine q_putI dX8_readRun_11 fd_X8_59 t0 h (fun τ2 h => ?_)
  refine r_iconst (v := 1) dX8_readRun_14 (by decide) ?_
  refine r_istore_n (lv' := [(3, .int (1 : Int32)), (2, .int (0 : Int32)), (1, .int (0 : Int32)), (0, .ref (G.2.1 x0))]) dX8_readRun_15 (by decide) rfl ?_
  obtain ⟨b3, eb3, h⟩ := bd0_some h
  refine r_pick [3, 2, 1, 0] rfl ?_
  refine sX8_readRun_L16 hdd x0 t0 (K := fun b => b = b3) ?_ 1000 ((0 : Int32), (0 : Int32), (1 : Int32), τ2) b3 eb3 rfl
  rintro v4 v5 τ6 rfl
  have h := un3_some h
  exact tX8_readRun_b144 hdd τ6 x0 v4 v5 t0 _ h hQ
theorem sX11_of_L2 {l : Launch} {G : gg} {Γ : ly} {d : Nat} {Q : Option Value → ly → mm → Prop} (hdd : 0 ≤ d) (σ : mm) (x0 : Int64)  {K : (Int32 ⊕ Unit) → Prop} (kx0 : ∀ (x2 : Int32), K (.inl x2) → WP l G yX11_of cX11_of 3 (Option.some (.object "GlassVows$Word")) d 0 0 Q 0 0 23 [(2, .int x2)] [] Γ σ) (kx1 : K (.inr ()) → WP l G yX11_of cX11_of 3 (Option.some (.object "GlassVows$Word")) d 0 0 Q 0 0 35 [] [] Γ σ) : ∀ (N : Nat) (s : Int32) (b : (Int32 ⊕ Unit)), loopN (fX11_of_L2 Γ.2 σ x0) N s = some b → K b → WP l G yX11_of cX11_of 3 (Option.some (.object "GlassVows$Word")) d 0 0 Q 0 0 2 [(0, .long x0), (2, .int s)] [] Γ σ := by
  refine r_loop (f := fX11_of_L2 Γ.2 σ x0) (hlv := fun s => [(0, .long x0), (2, .int s)]) (hsg := fun s => σ) ?_
  rintro x2 r h hb hx
  have hx0 : ∀ (x2 : Int32), r = .inr (.inl x2) → WP l G yX11_of cX11_of 3 (Option.some (.object "GlassVows$Word")) d 0 0 Q 0 0 23 [(2, .int x2)] [] Γ σ := fun x2 e => kx0 x2 (hx _ e)
  have hx1 : r = .inr (.inr ()) → WP l G yX11_of cX11_of 3 (Option.some (.object "GlassVows$Word")) d 0 0 Q 0 0 35 [] [] Γ σ := fun e => kx1  (hx _ e)
  unfold fX11_of_L2 at h
  show WP l G yX11_of cX11_of 3 (Option.some (.object "GlassVows$Word")) d 0 0 Q 0 0 2 [(0, .long x0), (2, .int x2)] [] Γ σ
  refine r_iload_n 1 dX11_of_2 rfl ?_
  refine r_all dX11_of_3 fw_X11_130 ?_
  refine r_allen dX11_of_6 ?_
  refine r_icmp_ge 35 dX11_of_7 (by decide) h (fun _ h => ?_) (fun _ h => ?_)
  · obtain rfl := Option.some.inj h
    refine r_pick [] rfl ?_
    exact hx1  rfl
  · refine r_all dX11_of_10 fw_X11_130 ?_
    refine r_iload_n 1 dX11_of_13 rfl ?_
    refine q_allld dX11_of_14 h (fun r1 tr1 h => ?_)
    refine r_wcode dX11_of_15 fw_X11_126 tr1 ?_
    refine r_lload_n 0 dX11_of_18 rfl ?_
    refine r_lcmp dX11_of_19 ?_
    refine r_if_ne 29 dX11_of_20 (by decide) h (fun _ h => ?_) (fun _ h => ?_)
    · refine q_iinc (v := 1) 1 (fun v2 => [(2, .int v2), (0, .long x0)]) dX11_of_29 rfl (by decide) (by decide) (fun _ => rfl) h (fun v2 h => ?_)
      refine r_goto 2 dX11_of_32 (by decide) ?_
      obtain rfl := Option.some.inj h
      refine r_pick [1, 0] rfl ?_
      exact hb _ rfl
    · obtain rfl := Option.some.inj h
      refine r_pick [1] rfl ?_
      exact hx0 _ rfl
theorem kX11_of {l : Launch} {G : gg} {Γ : ly} {σ : mm} (d : Nat) (hdd : 0 ≤ d) (x0 : Int64)  (r : Nat) (h : fX11_of Γ.2 σ x0 = some r) : CT l G yX11_of cX11_of 3 (Option.some (.object "GlassVows$Word")) d 0 0 [.long x0] Γ σ (PP (some (.ref (G.2.1 r))) Γ σ) := by
  refine CT.ofWP (by decide) (Nat.le_of_ble_eq_true rfl) ?_
  have hQ : PP (some (.ref (G.2.1 r))) Γ σ (some (.ref (G.2.1 r))) Γ σ := PP.self
  generalize PP (some (.ref (G.2.1 r))) Γ σ = Q at hQ ⊢
  show WP l G yX11_of cX11_of 3 (Option.some (.object "GlassVows$Word")) d 0 0 Q 0 0 0 [(0, .long x0)] [] Γ σ
  unfold fX11_of at h
  refine r_iconst (v := 0) dX11_of_0 (by decide) ?_
  refine r_istore_n (lv' := [(2, .int (0 : Int32)), (0, .long x0)]) dX11_of_1 (by decide) rfl ?_
  obtain ⟨b1, eb1, h⟩ := bd0_some h
  refine r_pick [1, 0] rfl ?_
  refine sX11_of_L2 hdd σ x0  (K := fun b => b = b1) ?_ ?_ 1000 (0 : Int32) b1 eb1 rfl
  · rintro v2 rfl
    have h := cs2_0 h
    refine r_all dX11_of_23 fw_X11_130 ?_
    refine r_iload_n 0 dX11_of_26 rfl ?_
    refine q_allld dX11_of_27 h (fun r3 tr3 h => ?_)
    obtain rfl := Option.some.inj h
    exact r_areturn dX11_of_28 rfl (Or.inl ⟨_, rfl⟩) hQ (Nat.le_refl _) (Nat.le_refl _)
  · rintro rfl
    have h := cs2_1 h
    refine r_word 1 dX11_of_35 fw_X11_7 (by decide) ?_
    obtain rfl := Option.some.inj h
    exact r_areturn dX11_of_38 rfl (Or.inl ⟨_, rfl⟩) hQ (Nat.le_refl _) (Nat.le_refl _)
theorem tX8_next_b39 {l : Launch} {G : gg} {Γ : ly} {d : Nat} {Q : Option Value → ly → mm → Prop} (hdd : 1 ≤ d) (σ : mm) (x0 : Nat)  (t0 : tyOK Γ (0, 8) x0)  (r : (mm ⊕ mm)) (h : fX8_next_b39 Γ.2 σ x0 = some r) (hb : ∀ (σ9 : mm), r = .inl σ9 → WP l G yX8_next cX8_next 1 (none) d 0 0 Q 0 0 0 [(0, .ref (G.2.1 x0))] [] Γ σ9) (hx0 : ∀ (σ9 : mm), r = .inr σ9 → WP l G yX8_next cX8_next 1 (none) d 0 0 Q 0 0 52 [(0, .ref (G.2.1 x0))] [] Γ σ9) : WP l G yX8_next cX8_next 1 (none) d 0 0 Q 0 0 39 [(0, .ref (G.2.1 x0))] [] Γ σ := by
  unfold fX8_next_b39 at h
  refine r_aload_n 0 dX8_next_39 rfl ?_
  refine r_dup dX8_next_40 rfl ?_
  refine r_getI dX8_next_41 fd_X8_29 t0 ?_
  refine r_iconst (v := 1) dX8_next_44 (by decide) ?_
  refine r_iadd dX8_next_45 ?_
  refine q_putI dX8_next_46 fd_X8_29 t0 h (fun τ1 h => ?_)
  refine r_goto 0 dX8_next_49 (by decide) ?_
  obtain rfl := Option.some.inj h
  exact hb _ rfl
theorem sX8_next_L0 {l : Launch} {G : gg} {Γ : ly} {d : Nat} {Q : Option Value → ly → mm → Prop} (hdd : 1 ≤ d) (x0 : Nat) (t0 : tyOK Γ (0, 8) x0) {K : mm → Prop} (kx0 : ∀ (σ9 : mm), K σ9 → WP l G yX8_next cX8_next 1 (none) d 0 0 Q 0 0 52 [(0, .ref (G.2.1 x0))] [] Γ σ9) : ∀ (N : Nat) (s : mm) (b : mm), loopN (fX8_next_L0 Γ.2 x0) N s = some b → K b → WP l G yX8_next cX8_next 1 (none) d 0 0 Q 0 0 0 [(0, .ref (G.2.1 x0))] [] Γ s := by
  refine r_loop (f := fX8_next_L0 Γ.2 x0) (hlv := fun s => [(0, .ref (G.2.1 x0))]) (hsg := fun s => s) ?_
  rintro σ r h hb hx
  have hx0 : ∀ (σ9 : mm), r = .inr σ9 → WP l G yX8_next cX8_next 1 (none) d 0 0 Q 0 0 52 [(0, .ref (G.2.1 x0))] [] Γ σ9 := fun σ9 e => kx0 σ9 (hx _ e)
  unfold fX8_next_L0 at h
  show WP l G yX8_next cX8_next 1 (none) d 0 0 Q 0 0 0 [(0, .ref (G.2.1 x0))] [] Γ σ
  refine r_aload_n 0 dX8_next_0 rfl ?_
  refine r_getI dX8_next_1 fd_X8_29 t0 ?_
  refine r_aload_n 0 dX8_next_4 rfl ?_
  refine r_getI dX8_next_5 fd_X8_22 t0 ?_
  refine r_icmp_ge 52 dX8_next_8 (by decide) h (fun _ h => ?_) (fun _ h => ?_)
  · obtain rfl := Option.some.inj h
    exact hx0 _ rfl
  · refine r_aload_n 0 dX8_next_11 rfl ?_
    refine q_getR (e9 := (2, 0)) dX8_next_12 fd_X8_9 t0 rfl h (fun r1 tr1 h => ?_)
    refine r_aload_n 0 dX8_next_15 rfl ?_
    refine r_getI dX8_next_16 fd_X8_29 t0 ?_
    refine q_bald dX8_next_19 tr1 h (fun v2 h => ?_)
    refine r_bipush (v := 32) dX8_next_20 (by decide) ?_
    refine r_icmp_eq 39 dX8_next_22 (by decide) h (fun _ h => ?_) (fun _ h => ?_)
    · exact tX8_next_b39 hdd σ x0 t0 _ h hb hx0
    · refine r_aload_n 0 dX8_next_25 rfl ?_
      refine q_getR (e9 := (2, 0)) dX8_next_26 fd_X8_9 t0 rfl h (fun r3 tr3 h => ?_)
      refine r_aload_n 0 dX8_next_29 rfl ?_
      refine r_getI dX8_next_30 fd_X8_29 t0 ?_
      refine q_bald dX8_next_33 tr3 h (fun v4 h => ?_)
      refine r_bipush (v := 10) dX8_next_34 (by decide) ?_
      refine r_icmp_ne 52 dX8_next_36 (by decide) h (fun _ h => ?_) (fun _ h => ?_)
      · obtain rfl := Option.some.inj h
        exact hx0 _ rfl
      · exact tX8_next_b39 hdd σ x0 t0 _ h hb hx0
theorem tX8_next_b194 {l : Launch} {G : gg} {Γ : ly} {d : Nat} {Q : Option Value → ly → mm → Prop} (hdd : 1 ≤ d) (σ : mm)     (r : mm) (h : fX8_next_b194 Γ.2 σ  = some r) (hQ : Q none Γ r) : WP l G yX8_next cX8_next 1 (none) d 0 0 Q 0 0 194 [] [] Γ σ := by
  unfold fX8_next_b194 at h
  obtain rfl := Option.some.inj h
  exact r_return dX8_next_194 rfl hQ (Nat.le_refl _) (Nat.le_refl _)
theorem tX8_next_b191 {l : Launch} {G : gg} {Γ : ly} {d : Nat} {Q : Option Value → ly → mm → Prop} (hdd : 1 ≤ d) (σ : mm)  (s0 : Nat) (s1 : Nat)  (u0 : tyOK Γ (0, 8) s0) (u1 : tyOK Γ (100, 0) s1) (r : mm) (h : fX8_next_b191 Γ.2 σ s0 s1 = some r) (hQ : Q none Γ r) : WP l G yX8_next cX8_next 1 (none) d 0 0 Q 0 0 191 [] [.ref (G.2.1 s1), .ref (G.2.1 s0)] Γ σ := by
  unfold fX8_next_b191 at h
  refine q_putR (e9 := (100, 0)) dX8_next_191 fd_X8_19 ⟨_, rfl⟩ u0 rfl u1 h (fun τ1 h => ?_)
  exact tX8_next_b194 hdd τ1  _ h hQ
theorem tX8_next_b105 {l : Launch} {G : gg} {Γ : ly} {d : Nat} {Q : Option Value → ly → mm → Prop} (hdd : 1 ≤ d) (σ : mm) (x0 : Nat)  (t0 : tyOK Γ (0, 8) x0)  (r : mm) (h : fX8_next_b105 Γ.2 σ x0 = some r) (hQ : Q none Γ r) : WP l G yX8_next cX8_next 1 (none) d 0 0 Q 0 0 105 [(0, .ref (G.2.1 x0))] [] Γ σ := by
  unfold fX8_next_b105 at h
  refine r_aload_n 0 dX8_next_105 rfl ?_
  refine r_getI dX8_next_106 fd_X8_29 t0 ?_
  refine r_aload_n 0 dX8_next_109 rfl ?_
  refine r_getI dX8_next_110 fd_X8_22 t0 ?_
  refine r_icmp_lt 124 dX8_next_113 (by decide) h (fun _ h => ?_) (fun _ h => ?_)
  · refine r_aload_n 0 dX8_next_124 rfl ?_
    refine q_getR (e9 := (2, 0)) dX8_next_125 fd_X8_9 t0 rfl h (fun r1 tr1 h => ?_)
    refine r_aload_n 0 dX8_next_128 rfl ?_
    refine r_getI dX8_next_129 fd_X8_29 t0 ?_
    refine q_bald dX8_next_132 tr1 h (fun v2 h => ?_)
    obtain ⟨v3, ev3, h⟩ := bd0_some h
    refine q_cSI [.int v2] dX8_next_133 cs_X8_44 rfl rfl (Nat.le_of_ble_eq_true rfl) (by omega) (kX8_isSign (d - 1) (by omega) v2  v3 ev3) ?_
    refine r_if_eq 165 dX8_next_136 (by decide) h (fun _ h => ?_) (fun _ h => ?_)
    · refine r_aload_n 0 dX8_next_165 rfl ?_
      obtain ⟨τ4, eτ4, h⟩ := bd0_some h
      refine q_cVV [] dX8_next_166 cv_X8_48 (ci := 8) rfl rfl t0 rfl rfl (Nat.le_of_ble_eq_true rfl) (by omega) (kX8_readRun (d - 1) (by omega) x0 t0 τ4 eτ4) ?_
      refine r_aload_n 0 dX8_next_169 rfl ?_
      refine r_aload_n 0 dX8_next_170 rfl ?_
      refine r_getI dX8_next_171 fd_X8_41 t0 ?_
      refine r_iconst (v := 2) dX8_next_174 (by decide) ?_
      refine r_icmp_ne 188 dX8_next_175 (by decide) h (fun _ h => ?_) (fun _ h => ?_)
      · refine r_word 0 dX8_next_188 fw_X8_13 (by decide) ?_
        refine r_pick [] rfl ?_
        exact tX8_next_b191 hdd τ4 x0 0 t0 (tyW (Γ := Γ) (i := 0) (by decide)) _ h hQ
      · refine r_aload_n 0 dX8_next_178 rfl ?_
        refine r_getL dX8_next_179 fd_X8_51 t0 ?_
        obtain ⟨v5, ev5, h⟩ := bd0_some h
        obtain ⟨tv5, h⟩ := ckW_some h
        refine q_cSA [.long (τ4.2.1 x0 7)] dX8_next_182 cs_X8_55 rfl rfl (Nat.le_of_ble_eq_true rfl) (by omega) (kX11_of (d - 1) (by omega) (τ4.2.1 x0 7)  v5 ev5) ?_
        refine r_goto 191 dX8_next_185 (by decide) ?_
        refine r_pick [] rfl ?_
        exact tX8_next_b191 hdd τ4 x0 v5 t0 (tyW (Γ := Γ) tv5) _ h hQ
    · refine r_aload_n 0 dX8_next_139 rfl ?_
      refine r_aload_n 0 dX8_next_140 rfl ?_
      refine q_getR (e9 := (2, 0)) dX8_next_141 fd_X8_9 t0 rfl h (fun r6 tr6 h => ?_)
      refine r_aload_n 0 dX8_next_144 rfl ?_
      refine r_getI dX8_next_145 fd_X8_29 t0 ?_
      refine q_bald dX8_next_148 tr6 h (fun v7 h => ?_)
      refine q_putI dX8_next_149 fd_X8_41 t0 h (fun τ8 h => ?_)
      refine r_aload_n 0 dX8_next_152 rfl ?_
      refine r_dup dX8_next_153 rfl ?_
      refine r_getI dX8_next_154 fd_X8_29 t0 ?_
      refine r_iconst (v := 1) dX8_next_157 (by decide) ?_
      refine r_iadd dX8_next_158 ?_
      refine q_putI dX8_next_159 fd_X8_29 t0 h (fun τ9 h => ?_)
      refine r_goto 194 dX8_next_162 (by decide) ?_
      refine r_pick [] rfl ?_
      exact tX8_next_b194 hdd τ9  _ h hQ
  · refine r_aload_n 0 dX8_next_116 rfl ?_
    refine r_iconst (v := 0) dX8_next_117 (by decide) ?_
    refine q_putI dX8_next_118 fd_X8_41 t0 h (fun τ10 h => ?_)
    refine r_goto 194 dX8_next_121 (by decide) ?_
    refine r_pick [] rfl ?_
    exact tX8_next_b194 hdd τ10  _ h hQ
theorem tX8_next_b52 {l : Launch} {G : gg} {Γ : ly} {d : Nat} {Q : Option Value → ly → mm → Prop} (hdd : 1 ≤ d) (σ : mm) (x0 : Nat)  (t0 : tyOK Γ (0, 8) x0)  (r : mm) (h : fX8_next_b52 Γ.2 σ x0 = some r) (hQ : Q none Γ r) : WP l G yX8_next cX8_next 1 (none) d 0 0 Q 0 0 52 [(0, .ref (G.2.1 x0))] [] Γ σ := by
  unfold fX8_next_b52 at h
  refine r_aload_n 0 dX8_next_52 rfl ?_
  refine r_aload_n 0 dX8_next_53 rfl ?_
  refine r_getI dX8_next_54 fd_X8_29 t0 ?_
  refine q_putI dX8_next_57 fd_X8_38 t0 h (fun τ1 h => ?_)
  refine r_aload_n 0 dX8_next_60 rfl ?_
  refine r_word 0 dX8_next_61 fw_X8_13 (by decide) ?_
  refine q_putR (e9 := (100, 0)) dX8_next_64 fd_X8_19 ⟨_, rfl⟩ t0 rfl (tyW (Γ := Γ) (i := 0) (by decide)) h (fun τ2 h => ?_)
  refine r_aload_n 0 dX8_next_67 rfl ?_
  refine r_getI dX8_next_68 fd_X8_29 t0 ?_
  refine r_aload_n 0 dX8_next_71 rfl ?_
  refine r_getI dX8_next_72 fd_X8_26 t0 ?_
  refine r_icmp_lt 105 dX8_next_75 (by decide) h (fun _ h => ?_) (fun _ h => ?_)
  · exact tX8_next_b105 hdd τ2 x0 t0 _ h hQ
  · refine r_aload_n 0 dX8_next_78 rfl ?_
    refine r_getI dX8_next_79 fd_X8_22 t0 ?_
    refine r_aload_n 0 dX8_next_82 rfl ?_
    refine r_getI dX8_next_83 fd_X8_26 t0 ?_
    refine r_icmp_le 105 dX8_next_86 (by decide) h (fun _ h => ?_) (fun _ h => ?_)
    · exact tX8_next_b105 hdd τ2 x0 t0 _ h hQ
    · refine r_aload_n 0 dX8_next_89 rfl ?_
      refine r_iconst (v := 1) dX8_next_90 (by decide) ?_
      refine q_putI dX8_next_91 fd_X8_41 t0 h (fun τ3 h => ?_)
      refine r_aload_n 0 dX8_next_94 rfl ?_
      refine r_aload_n 0 dX8_next_95 rfl ?_
      refine r_getI dX8_next_96 fd_X8_26 t0 ?_
      refine q_putI dX8_next_99 fd_X8_38 t0 h (fun τ4 h => ?_)
      refine r_goto 194 dX8_next_102 (by decide) ?_
      refine r_pick [] rfl ?_
      exact tX8_next_b194 hdd τ4  _ h hQ
theorem kX8_next {l : Launch} {G : gg} {Γ : ly} {σ : mm} (d : Nat) (hdd : 1 ≤ d) (x0 : Nat) (t0 : tyOK Γ (0, 8) x0) (r : mm) (h : fX8_next Γ.2 σ x0 = some r) : CT l G yX8_next cX8_next 1 (none) d 0 0 [.ref (G.2.1 x0)] Γ σ (PP none Γ r) := by
  refine CT.ofWP (by decide) (Nat.le_of_ble_eq_true rfl) ?_
  have hQ : PP none Γ r none Γ r := PP.self
  generalize PP none Γ r = Q at hQ ⊢
  show WP l G yX8_next cX8_next 1 (none) d 0 0 Q 0 0 0 [(0, .ref (G.2.1 x0))] [] Γ σ
  unfold fX8_next at h
  obtain ⟨b1, eb1, h⟩ := bd0_some h
  refine sX8_next_L0 hdd x0 t0 (K := fun b => b = b1) ?_ 1000 σ b1 eb1 rfl
  rintro τ2 rfl
  exact tX8_next_b52 hdd τ2 x0 t0 _ h hQ
theorem tX8_takeNumber_b47 {l : Launch} {G : gg} {Γ : ly} {d : Nat} {Q : Option Value → ly → mm → Prop} (hdd : 2 ≤ d) (σ : mm)  (s0 : Int32)   (r : (Int32 × mm)) (h : fX8_takeNumber_b47 Γ.2 σ s0 = some r) (hQ : Q (some (.int r.1)) Γ r.2) : WP l G yX8_takeNumber cX8_takeNumber 3 (some .boolean) d 0 0 Q 0 0 47 [] [.int s0] Γ σ := by
  unfold fX8_takeNumber_b47 at h
  obtain ⟨hbz, h⟩ := rZ_some h
  obtain rfl := Option.some.inj h
  exact r_zreturn dX8_takeNumber_47 rfl hbz hQ (Nat.le_refl _) (Nat.le_refl _)
theorem tX8_takeNumber_b42 {l : Launch} {G : gg} {Γ : ly} {d : Nat} {Q : Option Value → ly → mm → Prop} (hdd : 2 ≤ d) (σ : mm)     (r : (Int32 × mm)) (h : fX8_takeNumber_b42 Γ.2 σ  = some r) (hQ : Q (some (.int r.1)) Γ r.2) : WP l G yX8_takeNumber cX8_takeNumber 3 (some .boolean) d 0 0 Q 0 0 42 [] [] Γ σ := by
  unfold fX8_takeNumber_b42 at h
  refine r_iconst (v := 1) dX8_takeNumber_42 (by decide) ?_
  refine r_goto 47 dX8_takeNumber_43 (by decide) ?_
  exact tX8_takeNumber_b47 hdd σ (1 : Int32)  _ h hQ
theorem tX8_takeNumber_b34 {l : Launch} {G : gg} {Γ : ly} {d : Nat} {Q : Option Value → ly → mm → Prop} (hdd : 2 ≤ d) (σ : mm) (x0 : Nat)  (t0 : tyOK Γ (0, 8) x0)  (r : (Int32 × mm)) (h : fX8_takeNumber_b34 Γ.2 σ x0 = some r) (hQ : Q (some (.int r.1)) Γ r.2) : WP l G yX8_takeNumber cX8_takeNumber 3 (some .boolean) d 0 0 Q 0 0 34 [(0, .ref (G.2.1 x0))] [] Γ σ := by
  unfold fX8_takeNumber_b34 at h
  refine r_aload_n 0 dX8_takeNumber_34 rfl ?_
  refine r_iconst (v := 2) dX8_takeNumber_35 (by decide) ?_
  obtain ⟨v1, τ2, ev1, h⟩ := bd2_some h
  refine q_cVI [.int (2 : Int32)] dX8_takeNumber_36 cv_X8_65 (ci := 8) rfl rfl t0 rfl rfl (Nat.le_of_ble_eq_true rfl) (by omega) (kX8_fails (d - 1) (by omega) x0 (2 : Int32) t0 (v1, τ2) ev1) ?_
  refine r_if_eq 46 dX8_takeNumber_39 (by decide) h (fun _ h => ?_) (fun _ h => ?_)
  · refine r_iconst (v := 0) dX8_takeNumber_46 (by decide) ?_
    refine r_pick [] rfl ?_
    exact tX8_takeNumber_b47 hdd τ2 (0 : Int32)  _ h hQ
  · refine r_pick [] rfl ?_
    exact tX8_takeNumber_b42 hdd τ2  _ h hQ
theorem kX8_takeNumber {l : Launch} {G : gg} {Γ : ly} {σ : mm} (d : Nat) (hdd : 2 ≤ d) (x0 : Nat) (x1 : Int32) (x2 : Int32) (t0 : tyOK Γ (0, 8) x0) (r : (Int32 × mm)) (h : fX8_takeNumber Γ.2 σ x0 x1 x2 = some r) : CT l G yX8_takeNumber cX8_takeNumber 3 (some .boolean) d 0 0 [.ref (G.2.1 x0), .int x1, .int x2] Γ σ (PP (some (.int r.1)) Γ r.2) := by
  refine CT.ofWP (by decide) (Nat.le_of_ble_eq_true rfl) ?_
  have hQ : PP (some (.int r.1)) Γ r.2 (some (.int r.1)) Γ r.2 := PP.self
  generalize PP (some (.int r.1)) Γ r.2 = Q at hQ ⊢
  show WP l G yX8_takeNumber cX8_takeNumber 3 (some .boolean) d 0 0 Q 0 0 0 [(0, .ref (G.2.1 x0)), (1, .int x1), (2, .int x2)] [] Γ σ
  unfold fX8_takeNumber at h
  refine r_aload_n 0 dX8_takeNumber_0 rfl ?_
  obtain ⟨τ1, eτ1, h⟩ := bd0_some h
  refine q_cVV [] dX8_takeNumber_1 cv_X8_62 (ci := 8) rfl rfl t0 rfl rfl (Nat.le_of_ble_eq_true rfl) (by omega) (kX8_next (d - 1) (by omega) x0 t0 τ1 eτ1) ?_
  refine r_aload_n 0 dX8_takeNumber_4 rfl ?_
  refine r_getI dX8_takeNumber_5 fd_X8_41 t0 ?_
  refine r_iconst (v := 3) dX8_takeNumber_8 (by decide) ?_
  refine r_icmp_eq 18 dX8_takeNumber_9 (by decide) h (fun _ h => ?_) (fun _ h => ?_)
  · refine r_aload_n 0 dX8_takeNumber_18 rfl ?_
    refine r_getI dX8_takeNumber_19 fd_X8_59 t0 ?_
    refine r_iload_n 1 dX8_takeNumber_22 rfl ?_
    refine r_icmp_lt 34 dX8_takeNumber_23 (by decide) h (fun _ h => ?_) (fun _ h => ?_)
    · refine r_pick [0] rfl ?_
      exact tX8_takeNumber_b34 hdd τ1 x0 t0 _ h hQ
    · refine r_aload_n 0 dX8_takeNumber_26 rfl ?_
      refine r_getI dX8_takeNumber_27 fd_X8_59 t0 ?_
      refine r_iload_n 2 dX8_takeNumber_30 rfl ?_
      refine r_icmp_le 42 dX8_takeNumber_31 (by decide) h (fun _ h => ?_) (fun _ h => ?_)
      · refine r_pick [] rfl ?_
        exact tX8_takeNumber_b42 hdd τ1  _ h hQ
      · refine r_pick [0] rfl ?_
        exact tX8_takeNumber_b34 hdd τ1 x0 t0 _ h hQ
  · refine r_aload_n 0 dX8_takeNumber_12 rfl ?_
    refine r_iconst (v := 1) dX8_takeNumber_13 (by decide) ?_
    obtain ⟨v2, τ3, ev2, h⟩ := bd2_some h
    refine q_cVI [.int (1 : Int32)] dX8_takeNumber_14 cv_X8_65 (ci := 8) rfl rfl t0 rfl rfl (Nat.le_of_ble_eq_true rfl) (by omega) (kX8_fails (d - 1) (by omega) x0 (1 : Int32) t0 (v2, τ3) ev2) ?_
    obtain ⟨hbz, h⟩ := rZ_some h
    obtain rfl := Option.some.inj h
    exact r_zreturn dX8_takeNumber_17 rfl hbz hQ (Nat.le_refl _) (Nat.le_refl _)
