/-! the walks, 7 -/
theorem tX6_judge_b145 {l : Launch} {G : gg} {Γ : ly} {d : Nat} {Q : Option Value → ly → mm → Prop} (hdd : 6 ≤ d) (σ : mm) (x0 : Nat) (x1 : Nat)  (t0 : tyOK Γ (0, 6) x0) (t1 : tyOK Γ (0, 3) x1)  (r : (mm ⊕ mm)) (h : fX6_judge_b145 Γ.2 σ x0 x1 = some r) (hb : ∀ (σ9 : mm), r = .inl σ9 → WP l G yX6_judge cX6_judge 6 (some .int) d 0 0 Q 0 0 15 [(0, .ref (G.2.1 x0)), (1, .ref (G.2.1 x1))] [] Γ σ9) (hx0 : ∀ (σ9 : mm), r = .inr σ9 → WP l G yX6_judge cX6_judge 6 (some .int) d 0 0 Q 0 0 148 [(0, .ref (G.2.1 x0)), (1, .ref (G.2.1 x1))] [] Γ σ9) : WP l G yX6_judge cX6_judge 6 (some .int) d 0 0 Q 0 0 145 [(0, .ref (G.2.1 x0)), (1, .ref (G.2.1 x1))] [] Γ σ := by
  unfold fX6_judge_b145 at h
  refine r_goto 15 dX6_judge_145 (by decide) ?_
  obtain rfl := Option.some.inj h
  exact hb _ rfl
theorem sX6_judge_L15 {l : Launch} {G : gg} {Γ : ly} {d : Nat} {Q : Option Value → ly → mm → Prop} (hdd : 6 ≤ d) (x0 : Nat) (x1 : Nat) (t0 : tyOK Γ (0, 6) x0) (t1 : tyOK Γ (0, 3) x1) {K : mm → Prop} (kx0 : ∀ (σ9 : mm), K σ9 → WP l G yX6_judge cX6_judge 6 (some .int) d 0 0 Q 0 0 148 [(0, .ref (G.2.1 x0)), (1, .ref (G.2.1 x1))] [] Γ σ9) : ∀ (N : Nat) (s : mm) (b : mm), loopN (fX6_judge_L15 Γ.2 x0 x1) N s = some b → K b → WP l G yX6_judge cX6_judge 6 (some .int) d 0 0 Q 0 0 15 [(0, .ref (G.2.1 x0)), (1, .ref (G.2.1 x1))] [] Γ s := by
  refine r_loop (f := fX6_judge_L15 Γ.2 x0 x1) (hlv := fun s => [(0, .ref (G.2.1 x0)), (1, .ref (G.2.1 x1))]) (hsg := fun s => s) ?_
  rintro σ r h hb hx
  have hx0 : ∀ (σ9 : mm), r = .inr σ9 → WP l G yX6_judge cX6_judge 6 (some .int) d 0 0 Q 0 0 148 [(0, .ref (G.2.1 x0)), (1, .ref (G.2.1 x1))] [] Γ σ9 := fun σ9 e => kx0 σ9 (hx _ e)
  unfold fX6_judge_L15 at h
  show WP l G yX6_judge cX6_judge 6 (some .int) d 0 0 Q 0 0 15 [(0, .ref (G.2.1 x0)), (1, .ref (G.2.1 x1))] [] Γ σ
  refine r_aload_n 0 dX6_judge_15 rfl ?_
  refine r_getI dX6_judge_16 fd_X6_117 t0 ?_
  refine r_if_ne 148 dX6_judge_19 (by decide) h (fun _ h => ?_) (fun _ h => ?_)
  · obtain rfl := Option.some.inj h
    exact hx0 _ rfl
  · refine r_aload_n 0 dX6_judge_22 rfl ?_
    refine r_getI dX6_judge_23 fd_X6_120 t0 ?_
    refine r_aload_n 0 dX6_judge_26 rfl ?_
    refine r_getI dX6_judge_27 fd_X6_35 t0 ?_
    refine r_icmp_ge 148 dX6_judge_30 (by decide) h (fun _ h => ?_) (fun _ h => ?_)
    · obtain rfl := Option.some.inj h
      exact hx0 _ rfl
    · refine r_aload_n 0 dX6_judge_33 rfl ?_
      refine r_getI dX6_judge_34 fd_X6_120 t0 ?_
      refine r_bipush (v := 40) dX6_judge_37 (by decide) ?_
      refine r_icmp_ge 148 dX6_judge_39 (by decide) h (fun _ h => ?_) (fun _ h => ?_)
      · obtain rfl := Option.some.inj h
        exact hx0 _ rfl
      · refine r_aload_n 0 dX6_judge_42 rfl ?_
        refine q_getR (e9 := (1, 0)) dX6_judge_43 fd_X6_11 t0 rfl h (fun r1 tr1 h => ?_)
        refine r_aload_n 0 dX6_judge_46 rfl ?_
        refine r_getI dX6_judge_47 fd_X6_120 t0 ?_
        refine q_iald dX6_judge_50 tr1 h (fun v2 h => ?_)
        refine r_istore_n (lv' := [(2, .int v2), (0, .ref (G.2.1 x0)), (1, .ref (G.2.1 x1))]) dX6_judge_51 (by decide) rfl ?_
        refine r_aload_n 1 dX6_judge_52 rfl ?_
        refine q_getR (e9 := (1, 0)) dX6_judge_53 fd_X6_15 t0 rfl h (fun r3 tr3 h => ?_)
        refine r_aload_n 1 dX6_judge_56 rfl ?_
        refine r_getI dX6_judge_57 fd_X6_120 t0 ?_
        refine q_iald dX6_judge_60 tr3 h (fun v4 h => ?_)
        refine r_istore_n (lv' := [(3, .int v4), (2, .int v2), (0, .ref (G.2.1 x0)), (1, .ref (G.2.1 x1))]) dX6_judge_61 (by decide) rfl ?_
        refine r_aload_n 2 dX6_judge_62 rfl ?_
        refine q_getR (e9 := (1, 0)) dX6_judge_63 fd_X6_18 t0 rfl h (fun r5 tr5 h => ?_)
        refine r_aload_n 2 dX6_judge_66 rfl ?_
        refine r_getI dX6_judge_67 fd_X6_120 t0 ?_
        refine q_iald dX6_judge_70 tr5 h (fun v6 h => ?_)
        refine r_istore (lv' := [(4, .int v6), (3, .int v4), (2, .int v2), (0, .ref (G.2.1 x0)), (1, .ref (G.2.1 x1))]) dX6_judge_71 (by decide) rfl ?_
        refine r_aload_n 4 dX6_judge_73 rfl ?_
        refine r_iload_n 2 dX6_judge_74 rfl ?_
        refine r_iload_n 1 dX6_judge_75 rfl ?_
        refine r_iload 0 dX6_judge_76 rfl ?_
        obtain ⟨v7, ev7, h⟩ := bd0_some h
        refine q_cVI [.int v2, .int v4, .int v6] dX6_judge_78 cv_X6_123 (ci := 3) rfl rfl t1 rfl rfl (Nat.le_of_ble_eq_true rfl) (by omega) (kX3_whyNot (d - 1) (by omega) x1 v2 v4 v6 t1 v7 ev7) ?_
        refine r_istore (lv' := [(5, .int v7), (4, .int v6), (3, .int v4), (2, .int v2), (0, .ref (G.2.1 x0)), (1, .ref (G.2.1 x1))]) dX6_judge_81 (by decide) rfl ?_
        refine r_iload 0 dX6_judge_83 rfl ?_
        refine r_if_eq 102 dX6_judge_85 (by decide) h (fun _ h => ?_) (fun _ h => ?_)
        · refine r_iload_n 3 dX6_judge_102 rfl ?_
          refine r_bipush (v := 6) dX6_judge_103 (by decide) ?_
          refine r_icmp_ne 127 dX6_judge_105 (by decide) h (fun _ h => ?_) (fun _ h => ?_)
          · refine r_aload_n 5 dX6_judge_127 rfl ?_
            refine r_iload_n 3 dX6_judge_128 rfl ?_
            refine r_iload_n 2 dX6_judge_129 rfl ?_
            refine r_iload 1 dX6_judge_130 rfl ?_
            obtain ⟨τ8, eτ8, h⟩ := bd0_some h
            refine q_cVV [.int v2, .int v4, .int v6] dX6_judge_132 cv_X6_130 (ci := 3) rfl rfl t1 rfl rfl (Nat.le_of_ble_eq_true rfl) (by omega) (kX3_carryOut (d - 1) (by omega) x1 v2 v4 v6 t1 τ8 eτ8) ?_
            refine r_aload_n 4 dX6_judge_135 rfl ?_
            refine r_dup dX6_judge_136 rfl ?_
            refine r_getI dX6_judge_137 fd_X6_120 t0 ?_
            refine r_iconst (v := 1) dX6_judge_140 (by decide) ?_
            refine r_iadd dX6_judge_141 ?_
            refine q_putI dX6_judge_142 fd_X6_120 t0 h (fun τ9 h => ?_)
            refine r_pick [4, 5] rfl ?_
            exact tX6_judge_b145 hdd τ9 x0 x1 t0 t1 _ h hb hx0
          · refine r_aload_n 5 dX6_judge_108 rfl ?_
            refine r_iload 1 dX6_judge_109 rfl ?_
            obtain ⟨τ10, eτ10, h⟩ := bd0_some h
            refine q_cVV [.int v6] dX6_judge_111 cv_X6_127 (ci := 3) rfl rfl t1 rfl rfl (Nat.le_of_ble_eq_true rfl) (by omega) (kX3_passHours (d - 1) (by omega) x1 v6 t1 τ10 eτ10) ?_
            refine r_aload_n 4 dX6_judge_114 rfl ?_
            refine r_dup dX6_judge_115 rfl ?_
            refine r_getI dX6_judge_116 fd_X6_120 t0 ?_
            refine r_iconst (v := 1) dX6_judge_119 (by decide) ?_
            refine r_iadd dX6_judge_120 ?_
            refine q_putI dX6_judge_121 fd_X6_120 t0 h (fun τ11 h => ?_)
            refine r_goto 145 dX6_judge_124 (by decide) ?_
            refine r_pick [4, 5] rfl ?_
            exact tX6_judge_b145 hdd τ11 x0 x1 t0 t1 _ h hb hx0
        · refine r_aload_n 4 dX6_judge_88 rfl ?_
          refine r_bipush (v := 10) dX6_judge_89 (by decide) ?_
          refine r_iload_n 3 dX6_judge_91 rfl ?_
          refine r_imul dX6_judge_92 ?_
          refine r_iload 0 dX6_judge_93 rfl ?_
          refine r_iadd dX6_judge_95 ?_
          refine q_putI dX6_judge_96 fd_X6_117 t0 h (fun τ12 h => ?_)
          refine r_goto 145 dX6_judge_99 (by decide) ?_
          refine r_pick [4, 5] rfl ?_
          exact tX6_judge_b145 hdd τ12 x0 x1 t0 t1 _ h hb hx0
theorem tX6_judge_b179 {l : Launch} {G : gg} {Γ : ly} {d : Nat} {Q : Option Value → ly → mm → Prop} (hdd : 6 ≤ d) (σ : mm)  (s0 : Int32)   (r : (Int32 × mm)) (h : fX6_judge_b179 Γ.2 σ s0 = some r) (hQ : Q (some (.int r.1)) Γ r.2) : WP l G yX6_judge cX6_judge 6 (some .int) d 0 0 Q 0 0 179 [] [.int s0] Γ σ := by
  unfold fX6_judge_b179 at h
  obtain rfl := Option.some.inj h
  exact r_ireturn dX6_judge_179 rfl hQ (Nat.le_refl _) (Nat.le_refl _)
theorem tX6_judge_b148 {l : Launch} {G : gg} {Γ : ly} {d : Nat} {Q : Option Value → ly → mm → Prop} (hdd : 6 ≤ d) (σ : mm) (x0 : Nat) (x1 : Nat)  (t0 : tyOK Γ (0, 6) x0) (t1 : tyOK Γ (0, 3) x1)  (r : (Int32 × mm)) (h : fX6_judge_b148 Γ.2 σ x0 x1 = some r) (hQ : Q (some (.int r.1)) Γ r.2) : WP l G yX6_judge cX6_judge 6 (some .int) d 0 0 Q 0 0 148 [(0, .ref (G.2.1 x0)), (1, .ref (G.2.1 x1))] [] Γ σ := by
  unfold fX6_judge_b148 at h
  refine r_aload_n 0 dX6_judge_148 rfl ?_
  refine r_aload_n 1 dX6_judge_149 rfl ?_
  refine r_getI dX6_judge_150 fd_X6_134 t1 ?_
  refine q_putI dX6_judge_153 fd_X6_137 t0 h (fun τ1 h => ?_)
  refine r_aload_n 0 dX6_judge_156 rfl ?_
  refine r_aload_n 1 dX6_judge_157 rfl ?_
  refine r_getI dX6_judge_158 fd_X6_140 t1 ?_
  refine q_putI dX6_judge_161 fd_X6_143 t0 h (fun τ2 h => ?_)
  refine r_aload_n 0 dX6_judge_164 rfl ?_
  refine r_getI dX6_judge_165 fd_X6_117 t0 ?_
  refine r_if_ne 175 dX6_judge_168 (by decide) h (fun _ h => ?_) (fun _ h => ?_)
  · refine r_aload_n 0 dX6_judge_175 rfl ?_
    refine r_getI dX6_judge_176 fd_X6_120 t0 ?_
    refine r_pick [] rfl ?_
    exact tX6_judge_b179 hdd τ2 (τ2.1 x0 8)  _ h hQ
  · refine r_iconst (v := -1) dX6_judge_171 (by decide) ?_
    refine r_goto 179 dX6_judge_172 (by decide) ?_
    refine r_pick [] rfl ?_
    exact tX6_judge_b179 hdd τ2 (-1 : Int32)  _ h hQ
theorem kX6_judge {l : Launch} {G : gg} {Γ : ly} {σ : mm} (d : Nat) (hdd : 6 ≤ d) (x0 : Nat) (x1 : Nat) (t0 : tyOK Γ (0, 6) x0) (t1 : tyOK Γ (0, 3) x1) (r : (Int32 × mm)) (h : fX6_judge Γ.2 σ x0 x1 = some r) : CT l G yX6_judge cX6_judge 6 (some .int) d 0 0 [.ref (G.2.1 x0), .ref (G.2.1 x1)] Γ σ (PP (some (.int r.1)) Γ r.2) := by
  refine CT.ofWP (by decide) (Nat.le_of_ble_eq_true rfl) ?_
  have hQ : PP (some (.int r.1)) Γ r.2 (some (.int r.1)) Γ r.2 := PP.self
  generalize PP (some (.int r.1)) Γ r.2 = Q at hQ ⊢
  show WP l G yX6_judge cX6_judge 6 (some .int) d 0 0 Q 0 0 0 [(0, .ref (G.2.1 x0)), (1, .ref (G.2.1 x1))] [] Γ σ
  unfold fX6_judge at h
  refine r_aload_n 0 dX6_judge_0 rfl ?_
  refine r_iconst (v := 1) dX6_judge_1 (by decide) ?_
  refine q_putZ dX6_judge_2 fd_X6_113 t0 h (fun τ1 h => ?_)
  refine r_aload_n 0 dX6_judge_5 rfl ?_
  refine r_iconst (v := 0) dX6_judge_6 (by decide) ?_
  refine q_putI dX6_judge_7 fd_X6_117 t0 h (fun τ2 h => ?_)
  refine r_aload_n 0 dX6_judge_10 rfl ?_
  refine r_iconst (v := 0) dX6_judge_11 (by decide) ?_
  refine q_putI dX6_judge_12 fd_X6_120 t0 h (fun τ3 h => ?_)
  obtain ⟨b4, eb4, h⟩ := bd0_some h
  refine sX6_judge_L15 hdd x0 x1 t0 t1 (K := fun b => b = b4) ?_ 1000 τ3 b4 eb4 rfl
  rintro τ5 rfl
  exact tX6_judge_b148 hdd τ5 x0 x1 t0 t1 _ h hQ
theorem kX6_told {l : Launch} {G : gg} {Γ : ly} {σ : mm} (d : Nat) (hdd : 0 ≤ d) (x0 : Nat) (x1 : Int32) (t0 : tyOK Γ (0, 6) x0) (r : Int32) (h : fX6_told Γ.2 σ x0 x1 = some r) : CT l G yX6_told cX6_told 2 (some .int) d 0 0 [.ref (G.2.1 x0), .int x1] Γ σ (PP (some (.int r)) Γ σ) := by
  refine CT.ofWP (by decide) (Nat.le_of_ble_eq_true rfl) ?_
  have hQ : PP (some (.int r)) Γ σ (some (.int r)) Γ σ := PP.self
  generalize PP (some (.int r)) Γ σ = Q at hQ ⊢
  show WP l G yX6_told cX6_told 2 (some .int) d 0 0 Q 0 0 0 [(0, .ref (G.2.1 x0)), (1, .int x1)] [] Γ σ
  unfold fX6_told at h
  refine r_aload_n 0 dX6_told_0 rfl ?_
  refine r_getI dX6_told_1 fd_X6_113 t0 ?_
  refine r_if_ne 9 dX6_told_4 (by decide) h (fun _ h => ?_) (fun _ h => ?_)
  · refine r_iload_n 1 dX6_told_9 rfl ?_
    rcases if_split h with ⟨q9, h⟩ | ⟨n0, h⟩
    · refine r_table (0 : Int32) 30 40 dX6_told_10 q9 (by decide) (by decide) rfl (by decide) ?_
      refine r_aload_n 0 dX6_told_40 rfl ?_
      refine r_getI dX6_told_41 fd_X6_117 t0 ?_
      obtain rfl := Option.some.inj h
      exact r_ireturn dX6_told_44 rfl hQ (Nat.le_refl _) (Nat.le_refl _)
    rcases if_split h with ⟨q9, h⟩ | ⟨n1, h⟩
    · refine r_table (1 : Int32) 35 45 dX6_told_10 q9 (by decide) (by decide) rfl (by decide) ?_
      refine r_aload_n 0 dX6_told_45 rfl ?_
      refine r_getI dX6_told_46 fd_X6_120 t0 ?_
      obtain rfl := Option.some.inj h
      exact r_ireturn dX6_told_49 rfl hQ (Nat.le_refl _) (Nat.le_refl _)
    rcases if_split h with ⟨q9, h⟩ | ⟨n2, h⟩
    · refine r_table (2 : Int32) 40 50 dX6_told_10 q9 (by decide) (by decide) rfl (by decide) ?_
      refine r_aload_n 0 dX6_told_50 rfl ?_
      refine r_getI dX6_told_51 fd_X6_137 t0 ?_
      obtain rfl := Option.some.inj h
      exact r_ireturn dX6_told_54 rfl hQ (Nat.le_refl _) (Nat.le_refl _)
    rcases if_split h with ⟨q9, h⟩ | ⟨n3, h⟩
    · refine r_table (3 : Int32) 45 55 dX6_told_10 q9 (by decide) (by decide) rfl (by decide) ?_
      refine r_aload_n 0 dX6_told_55 rfl ?_
      refine r_getI dX6_told_56 fd_X6_143 t0 ?_
      obtain rfl := Option.some.inj h
      exact r_ireturn dX6_told_59 rfl hQ (Nat.le_refl _) (Nat.le_refl _)
    have n0 := ne_int n0 (z := 0) rfl
    have n1 := ne_int n1 (z := 1) rfl
    have n2 := ne_int n2 (z := 2) rfl
    have n3 := ne_int n3 (z := 3) rfl
    refine r_tableD 60 dX6_told_10 (by omega) (by decide) ?_
    refine r_iconst (v := -1) dX6_told_60 (by decide) ?_
    obtain rfl := Option.some.inj h
    exact r_ireturn dX6_told_61 rfl hQ (Nat.le_refl _) (Nat.le_refl _)
  · refine r_iconst (v := -1) dX6_told_7 (by decide) ?_
    obtain rfl := Option.some.inj h
    exact r_ireturn dX6_told_8 rfl hQ (Nat.le_refl _) (Nat.le_refl _)
theorem kX7_forget {l : Launch} {G : gg} {Γ : ly} {σ : mm} (d : Nat) (hdd : 0 ≤ d) (x0 : Nat) (t0 : tyOK Γ (0, 7) x0) (r : mm) (h : fX7_forget Γ.2 σ x0 = some r) : CT l G yX7_forget cX7_forget 1 (none) d 0 0 [.ref (G.2.1 x0)] Γ σ (PP none Γ r) := by
  refine CT.ofWP (by decide) (Nat.le_of_ble_eq_true rfl) ?_
  have hQ : PP none Γ r none Γ r := PP.self
  generalize PP none Γ r = Q at hQ ⊢
  show WP l G yX7_forget cX7_forget 1 (none) d 0 0 Q 0 0 0 [(0, .ref (G.2.1 x0))] [] Γ σ
  unfold fX7_forget at h
  refine r_aload_n 0 dX7_forget_0 rfl ?_
  refine r_iconst (v := 0) dX7_forget_1 (by decide) ?_
  refine q_putI dX7_forget_2 fd_X7_28 t0 h (fun τ1 h => ?_)
  refine r_aload_n 0 dX7_forget_5 rfl ?_
  refine r_iconst (v := 0) dX7_forget_6 (by decide) ?_
  refine q_putI dX7_forget_7 fd_X7_32 t0 h (fun τ2 h => ?_)
  obtain rfl := Option.some.inj h
  exact r_return dX7_forget_10 rfl hQ (Nat.le_refl _) (Nat.le_refl _)
theorem sX7_copyFrom_L2 {l : Launch} {G : gg} {Γ : ly} {d : Nat} {Q : Option Value → ly → mm → Prop} (hdd : 0 ≤ d) (x0 : Nat) (x1 : Nat) (t0 : tyOK Γ (0, 7) x0) (t1 : tyOK Γ (0, 7) x1) {K : mm → Prop} (kx0 : ∀ (σ9 : mm), K σ9 → WP l G yX7_copyFrom cX7_copyFrom 3 (none) d 0 0 Q 0 0 50 [(0, .ref (G.2.1 x0)), (1, .ref (G.2.1 x1))] [] Γ σ9) : ∀ (N : Nat) (s : (Int32 × mm)) (b : mm), loopN (fX7_copyFrom_L2 Γ.2 x0 x1) N s = some b → K b → WP l G yX7_copyFrom cX7_copyFrom 3 (none) d 0 0 Q 0 0 2 [(0, .ref (G.2.1 x0)), (1, .ref (G.2.1 x1)), (2, .int s.1)] [] Γ s.2 := by
  refine r_loop (f := fX7_copyFrom_L2 Γ.2 x0 x1) (hlv := fun s => [(0, .ref (G.2.1 x0)), (1, .ref (G.2.1 x1)), (2, .int s.1)]) (hsg := fun s => s.2) ?_
  rintro ⟨x2, σ⟩ r h hb hx
  have hb : ∀ (x2 : Int32) (σ : mm), r = .inl (x2, σ) → WP l G yX7_copyFrom cX7_copyFrom 3 (none) d 0 0 Q 0 0 2 [(0, .ref (G.2.1 x0)), (1, .ref (G.2.1 x1)), (2, .int x2)] [] Γ σ := fun x2 σ e => hb (x2, σ) e
  have hx0 : ∀ (σ9 : mm), r = .inr σ9 → WP l G yX7_copyFrom cX7_copyFrom 3 (none) d 0 0 Q 0 0 50 [(0, .ref (G.2.1 x0)), (1, .ref (G.2.1 x1))] [] Γ σ9 := fun σ9 e => kx0 σ9 (hx _ e)
  unfold fX7_copyFrom_L2 at h
  have h := un2_some h
  show WP l G yX7_copyFrom cX7_copyFrom 3 (none) d 0 0 Q 0 0 2 [(0, .ref (G.2.1 x0)), (1, .ref (G.2.1 x1)), (2, .int x2)] [] Γ σ
  refine r_iload_n 2 dX7_copyFrom_2 rfl ?_
  refine r_bipush (v := 40) dX7_copyFrom_3 (by decide) ?_
  refine r_icmp_ge 50 dX7_copyFrom_5 (by decide) h (fun _ h => ?_) (fun _ h => ?_)
  · obtain rfl := Option.some.inj h
    refine r_pick [0, 1] rfl ?_
    exact hx0 _ rfl
  · refine r_aload_n 0 dX7_copyFrom_8 rfl ?_
    refine q_getR (e9 := (8, 0)) dX7_copyFrom_9 fd_X7_13 t0 rfl h (fun r1 tr1 h => ?_)
    refine r_iload_n 2 dX7_copyFrom_12 rfl ?_
    refine r_aload_n 1 dX7_copyFrom_13 rfl ?_
    refine q_getR (e9 := (8, 0)) dX7_copyFrom_14 fd_X7_13 t1 rfl h (fun r2 tr2 h => ?_)
    refine r_iload_n 2 dX7_copyFrom_17 rfl ?_
    refine q_aald8 dX7_copyFrom_18 tr2 h (fun r3 tr3 h => ?_)
    refine q_aast8 dX7_copyFrom_19 tr1 tr3 h (fun τ4 h => ?_)
    refine r_aload_n 0 dX7_copyFrom_20 rfl ?_
    refine q_getR (e9 := (1, 0)) dX7_copyFrom_21 fd_X7_17 t0 rfl h (fun r5 tr5 h => ?_)
    refine r_iload_n 2 dX7_copyFrom_24 rfl ?_
    refine r_aload_n 1 dX7_copyFrom_25 rfl ?_
    refine q_getR (e9 := (1, 0)) dX7_copyFrom_26 fd_X7_17 t1 rfl h (fun r6 tr6 h => ?_)
    refine r_iload_n 2 dX7_copyFrom_29 rfl ?_
    refine q_iald dX7_copyFrom_30 tr6 h (fun v7 h => ?_)
    refine q_iast dX7_copyFrom_31 tr5 h (fun τ8 h => ?_)
    refine r_aload_n 0 dX7_copyFrom_32 rfl ?_
    refine q_getR (e9 := (1, 0)) dX7_copyFrom_33 fd_X7_21 t0 rfl h (fun r9 tr9 h => ?_)
    refine r_iload_n 2 dX7_copyFrom_36 rfl ?_
    refine r_aload_n 1 dX7_copyFrom_37 rfl ?_
    refine q_getR (e9 := (1, 0)) dX7_copyFrom_38 fd_X7_21 t1 rfl h (fun r10 tr10 h => ?_)
    refine r_iload_n 2 dX7_copyFrom_41 rfl ?_
    refine q_iald dX7_copyFrom_42 tr10 h (fun v11 h => ?_)
    refine q_iast dX7_copyFrom_43 tr9 h (fun τ12 h => ?_)
    refine q_iinc (v := 1) 2 (fun v13 => [(2, .int v13), (0, .ref (G.2.1 x0)), (1, .ref (G.2.1 x1))]) dX7_copyFrom_44 rfl (by decide) (by decide) (fun _ => rfl) h (fun v13 h => ?_)
    refine r_goto 2 dX7_copyFrom_47 (by decide) ?_
    obtain rfl := Option.some.inj h
    refine r_pick [1, 2, 0] rfl ?_
    exact hb _ _ rfl
theorem kX7_copyFrom {l : Launch} {G : gg} {Γ : ly} {σ : mm} (d : Nat) (hdd : 0 ≤ d) (x0 : Nat) (x1 : Nat) (t0 : tyOK Γ (0, 7) x0) (t1 : tyOK Γ (0, 7) x1) (r : mm) (h : fX7_copyFrom Γ.2 σ x0 x1 = some r) : CT l G yX7_copyFrom cX7_copyFrom 3 (none) d 0 0 [.ref (G.2.1 x0), .ref (G.2.1 x1)] Γ σ (PP none Γ r) := by
  refine CT.ofWP (by decide) (Nat.le_of_ble_eq_true rfl) ?_
  have hQ : PP none Γ r none Γ r := PP.self
  generalize PP none Γ r = Q at hQ ⊢
  show WP l G yX7_copyFrom cX7_copyFrom 3 (none) d 0 0 Q 0 0 0 [(0, .ref (G.2.1 x0)), (1, .ref (G.2.1 x1))] [] Γ σ
  unfold fX7_copyFrom at h
  refine r_iconst (v := 0) dX7_copyFrom_0 (by decide) ?_
  refine r_istore_n (lv' := [(2, .int (0 : Int32)), (0, .ref (G.2.1 x0)), (1, .ref (G.2.1 x1))]) dX7_copyFrom_1 (by decide) rfl ?_
  obtain ⟨b1, eb1, h⟩ := bd0_some h
  refine r_pick [1, 2, 0] rfl ?_
  refine sX7_copyFrom_L2 hdd x0 x1 t0 t1 (K := fun b => b = b1) ?_ 1000 ((0 : Int32), σ) b1 eb1 rfl
  rintro τ2 rfl
  refine r_aload_n 0 dX7_copyFrom_50 rfl ?_
  refine r_aload_n 1 dX7_copyFrom_51 rfl ?_
  refine r_getI dX7_copyFrom_52 fd_X7_32 t1 ?_
  refine q_putI dX7_copyFrom_55 fd_X7_32 t0 h (fun τ3 h => ?_)
  refine r_aload_n 0 dX7_copyFrom_58 rfl ?_
  refine r_aload_n 1 dX7_copyFrom_59 rfl ?_
  refine r_getI dX7_copyFrom_60 fd_X7_28 t1 ?_
  refine q_putI dX7_copyFrom_63 fd_X7_28 t0 h (fun τ4 h => ?_)
  obtain rfl := Option.some.inj h
  exact r_return dX7_copyFrom_66 rfl hQ (Nat.le_refl _) (Nat.le_refl _)
theorem tX7_addStep_b49 {l : Launch} {G : gg} {Γ : ly} {d : Nat} {Q : Option Value → ly → mm → Prop} (hdd : 0 ≤ d) (σ : mm)     (r : (Int32 × mm)) (h : fX7_addStep_b49 Γ.2 σ  = some r) (hQ : Q (some (.int r.1)) Γ r.2) : WP l G yX7_addStep cX7_addStep 4 (some .boolean) d 0 0 Q 0 0 49 [] [] Γ σ := by
  unfold fX7_addStep_b49 at h
  refine r_iconst (v := 1) dX7_addStep_49 (by decide) ?_
  obtain rfl := Option.some.inj h
  exact r_zreturn dX7_addStep_50 rfl (by decide) hQ (Nat.le_refl _) (Nat.le_refl _)
theorem kX7_addStep {l : Launch} {G : gg} {Γ : ly} {σ : mm} (d : Nat) (hdd : 0 ≤ d) (x0 : Nat) (x1 : Nat) (x2 : Int32) (x3 : Int32) (t0 : tyOK Γ (0, 7) x0) (t1 : tyOK Γ (100, 0) x1) (r : (Int32 × mm)) (h : fX7_addStep Γ.2 σ x0 x1 x2 x3 = some r) : CT l G yX7_addStep cX7_addStep 4 (some .boolean) d 0 0 [.ref (G.2.1 x0), .ref (G.2.1 x1), .int x2, .int x3] Γ σ (PP (some (.int r.1)) Γ r.2) := by
  refine CT.ofWP (by decide) (Nat.le_of_ble_eq_true rfl) ?_
  have hQ : PP (some (.int r.1)) Γ r.2 (some (.int r.1)) Γ r.2 := PP.self
  generalize PP (some (.int r.1)) Γ r.2 = Q at hQ ⊢
  show WP l G yX7_addStep cX7_addStep 4 (some .boolean) d 0 0 Q 0 0 0 [(0, .ref (G.2.1 x0)), (1, .ref (G.2.1 x1)), (2, .int x2), (3, .int x3)] [] Γ σ
  unfold fX7_addStep at h
  refine r_aload_n 0 dX7_addStep_0 rfl ?_
  refine r_getI dX7_addStep_1 fd_X7_32 t0 ?_
  refine r_bipush (v := 40) dX7_addStep_4 (by decide) ?_
  refine r_icmp_ge 49 dX7_addStep_6 (by decide) h (fun _ h => ?_) (fun _ h => ?_)
  · refine r_pick [] rfl ?_
    exact tX7_addStep_b49 hdd σ  _ h hQ
  · refine r_aload_n 0 dX7_addStep_9 rfl ?_
    refine q_getR (e9 := (8, 0)) dX7_addStep_10 fd_X7_13 t0 rfl h (fun r1 tr1 h => ?_)
    refine r_aload_n 0 dX7_addStep_13 rfl ?_
    refine r_getI dX7_addStep_14 fd_X7_32 t0 ?_
    refine r_aload_n 1 dX7_addStep_17 rfl ?_
    refine q_aast8 dX7_addStep_18 tr1 t1 h (fun τ2 h => ?_)
    refine r_aload_n 0 dX7_addStep_19 rfl ?_
    refine q_getR (e9 := (1, 0)) dX7_addStep_20 fd_X7_17 t0 rfl h (fun r3 tr3 h => ?_)
    refine r_aload_n 0 dX7_addStep_23 rfl ?_
    refine r_getI dX7_addStep_24 fd_X7_32 t0 ?_
    refine r_iload_n 2 dX7_addStep_27 rfl ?_
    refine q_iast dX7_addStep_28 tr3 h (fun τ4 h => ?_)
    refine r_aload_n 0 dX7_addStep_29 rfl ?_
    refine q_getR (e9 := (1, 0)) dX7_addStep_30 fd_X7_21 t0 rfl h (fun r5 tr5 h => ?_)
    refine r_aload_n 0 dX7_addStep_33 rfl ?_
    refine r_getI dX7_addStep_34 fd_X7_32 t0 ?_
    refine r_iload_n 3 dX7_addStep_37 rfl ?_
    refine q_iast dX7_addStep_38 tr5 h (fun τ6 h => ?_)
    refine r_aload_n 0 dX7_addStep_39 rfl ?_
    refine r_dup dX7_addStep_40 rfl ?_
    refine r_getI dX7_addStep_41 fd_X7_32 t0 ?_
    refine r_iconst (v := 1) dX7_addStep_44 (by decide) ?_
    refine r_iadd dX7_addStep_45 ?_
    refine q_putI dX7_addStep_46 fd_X7_32 t0 h (fun τ7 h => ?_)
    refine r_pick [] rfl ?_
    exact tX7_addStep_b49 hdd τ7  _ h hQ
theorem tX7_isMeasure_b33 {l : Launch} {G : gg} {Γ : ly} {d : Nat} {Q : Option Value → ly → mm → Prop} (hdd : 0 ≤ d) (σ : mm)  (s0 : Int32)   (r : Int32) (h : fX7_isMeasure_b33 Γ.2 σ s0 = some r) (hQ : Q (some (.int r)) Γ σ) : WP l G yX7_isMeasure cX7_isMeasure 1 (some .boolean) d 0 0 Q 0 0 33 [] [.int s0] Γ σ := by
  unfold fX7_isMeasure_b33 at h
  obtain ⟨hbz, h⟩ := rZ_some h
  obtain rfl := Option.some.inj h
  exact r_zreturn dX7_isMeasure_33 rfl hbz hQ (Nat.le_refl _) (Nat.le_refl _)
theorem tX7_isMeasure_b28 {l : Launch} {G : gg} {Γ : ly} {d : Nat} {Q : Option Value → ly → mm → Prop} (hdd : 0 ≤ d) (σ : mm)     (r : Int32) (h : fX7_isMeasure_b28 Γ.2 σ  = some r) (hQ : Q (some (.int r)) Γ σ) : WP l G yX7_isMeasure cX7_isMeasure 1 (some .boolean) d 0 0 Q 0 0 28 [] [] Γ σ := by
  unfold fX7_isMeasure_b28 at h
  refine r_iconst (v := 1) dX7_isMeasure_28 (by decide) ?_
  refine r_goto 33 dX7_isMeasure_29 (by decide) ?_
  exact tX7_isMeasure_b33 hdd σ (1 : Int32)  _ h hQ
theorem kX7_isMeasure {l : Launch} {G : gg} {Γ : ly} {σ : mm} (d : Nat) (hdd : 0 ≤ d) (x0 : Nat) (t0 : tyOK Γ (100, 0) x0) (r : Int32) (h : fX7_isMeasure Γ.2 σ x0 = some r) : CT l G yX7_isMeasure cX7_isMeasure 1 (some .boolean) d 0 0 [.ref (G.2.1 x0)] Γ σ (PP (some (.int r)) Γ σ) := by
  refine CT.ofWP (by decide) (Nat.le_of_ble_eq_true rfl) ?_
  have hQ : PP (some (.int r)) Γ σ (some (.int r)) Γ σ := PP.self
  generalize PP (some (.int r)) Γ σ = Q at hQ ⊢
  show WP l G yX7_isMeasure cX7_isMeasure 1 (some .boolean) d 0 0 Q 0 0 0 [(0, .ref (G.2.1 x0))] [] Γ σ
  unfold fX7_isMeasure at h
  refine r_aload_n 0 dX7_isMeasure_0 rfl ?_
  refine r_word 27 dX7_isMeasure_1 fw_X7_100 (by decide) ?_
  refine r_acmp_eq 28 dX7_isMeasure_4 (by decide) t0 (tyW (Γ := Γ) (i := 27) (by decide)) h (fun _ h => ?_) (fun _ h => ?_)
  · refine r_pick [] rfl ?_
    exact tX7_isMeasure_b28 hdd σ  _ h hQ
  · refine r_aload_n 0 dX7_isMeasure_7 rfl ?_
    refine r_word 28 dX7_isMeasure_8 fw_X7_103 (by decide) ?_
    refine r_acmp_eq 28 dX7_isMeasure_11 (by decide) t0 (tyW (Γ := Γ) (i := 28) (by decide)) h (fun _ h => ?_) (fun _ h => ?_)
    · refine r_pick [] rfl ?_
      exact tX7_isMeasure_b28 hdd σ  _ h hQ
    · refine r_aload_n 0 dX7_isMeasure_14 rfl ?_
      refine r_word 29 dX7_isMeasure_15 fw_X7_106 (by decide) ?_
      refine r_acmp_eq 28 dX7_isMeasure_18 (by decide) t0 (tyW (Γ := Γ) (i := 29) (by decide)) h (fun _ h => ?_) (fun _ h => ?_)
      · refine r_pick [] rfl ?_
        exact tX7_isMeasure_b28 hdd σ  _ h hQ
      · refine r_aload_n 0 dX7_isMeasure_21 rfl ?_
        refine r_word 30 dX7_isMeasure_22 fw_X7_109 (by decide) ?_
        refine r_acmp_ne 32 dX7_isMeasure_25 (by decide) t0 (tyW (Γ := Γ) (i := 30) (by decide)) h (fun _ h => ?_) (fun _ h => ?_)
        · refine r_iconst (v := 0) dX7_isMeasure_32 (by decide) ?_
          refine r_pick [] rfl ?_
          exact tX7_isMeasure_b33 hdd σ (0 : Int32)  _ h hQ
        · refine r_pick [] rfl ?_
          exact tX7_isMeasure_b28 hdd σ  _ h hQ
theorem kX7_mayBegin {l : Launch} {G : gg} {Γ : ly} {σ : mm} (d : Nat) (hdd : 1 ≤ d) (x0 : Nat) (t0 : tyOK Γ (100, 0) x0) (r : Int32) (h : fX7_mayBegin Γ.2 σ x0 = some r) : CT l G yX7_mayBegin cX7_mayBegin 1 (some .boolean) d 0 0 [.ref (G.2.1 x0)] Γ σ (PP (some (.int r)) Γ σ) := by
  refine CT.ofWP (by decide) (Nat.le_of_ble_eq_true rfl) ?_
  have hQ : PP (some (.int r)) Γ σ (some (.int r)) Γ σ := PP.self
  generalize PP (some (.int r)) Γ σ = Q at hQ ⊢
  show WP l G yX7_mayBegin cX7_mayBegin 1 (some .boolean) d 0 0 Q 0 0 0 [(0, .ref (G.2.1 x0))] [] Γ σ
  unfold fX7_mayBegin at h
  refine r_swm dX7_mayBegin_0 fw_X7_88 ?_
  refine r_aload_n 0 dX7_mayBegin_3 rfl ?_
  refine q_cord dX7_mayBegin_4 cu_X7_93 rfl rfl t0 (Nat.le_of_ble_eq_true rfl) (by omega) (k_ordinal (d - 1) x0 t0) ?_
  refine q_swmld dX7_mayBegin_7 h (fun v1 h => ?_)
  rcases if_split h with ⟨q9, h⟩ | ⟨n0, h⟩
  · refine r_table (17 : Int32) 40 48 dX7_mayBegin_8 q9 (by decide) (by decide) rfl (by decide) ?_
    refine r_iconst (v := 1) dX7_mayBegin_48 (by decide) ?_
    obtain rfl := Option.some.inj h
    exact r_zreturn dX7_mayBegin_49 rfl (by decide) hQ (Nat.le_refl _) (Nat.le_refl _)
  rcases if_split h with ⟨q9, h⟩ | ⟨n1, h⟩
  · refine r_table (18 : Int32) 40 48 dX7_mayBegin_8 q9 (by decide) (by decide) rfl (by decide) ?_
    refine r_iconst (v := 1) dX7_mayBegin_48 (by decide) ?_
    obtain rfl := Option.some.inj h
    exact r_zreturn dX7_mayBegin_49 rfl (by decide) hQ (Nat.le_refl _) (Nat.le_refl _)
  rcases if_split h with ⟨q9, h⟩ | ⟨n2, h⟩
  · refine r_table (19 : Int32) 40 48 dX7_mayBegin_8 q9 (by decide) (by decide) rfl (by decide) ?_
    refine r_iconst (v := 1) dX7_mayBegin_48 (by decide) ?_
    obtain rfl := Option.some.inj h
    exact r_zreturn dX7_mayBegin_49 rfl (by decide) hQ (Nat.le_refl _) (Nat.le_refl _)
  rcases if_split h with ⟨q9, h⟩ | ⟨n3, h⟩
  · refine r_table (20 : Int32) 40 48 dX7_mayBegin_8 q9 (by decide) (by decide) rfl (by decide) ?_
    refine r_iconst (v := 1) dX7_mayBegin_48 (by decide) ?_
    obtain rfl := Option.some.inj h
    exact r_zreturn dX7_mayBegin_49 rfl (by decide) hQ (Nat.le_refl _) (Nat.le_refl _)
  rcases if_split h with ⟨q9, h⟩ | ⟨n4, h⟩
  · refine r_table (21 : Int32) 40 48 dX7_mayBegin_8 q9 (by decide) (by decide) rfl (by decide) ?_
    refine r_iconst (v := 1) dX7_mayBegin_48 (by decide) ?_
    obtain rfl := Option.some.inj h
    exact r_zreturn dX7_mayBegin_49 rfl (by decide) hQ (Nat.le_refl _) (Nat.le_refl _)
  rcases if_split h with ⟨q9, h⟩ | ⟨n5, h⟩
  · refine r_table (22 : Int32) 40 48 dX7_mayBegin_8 q9 (by decide) (by decide) rfl (by decide) ?_
    refine r_iconst (v := 1) dX7_mayBegin_48 (by decide) ?_
    obtain rfl := Option.some.inj h
    exact r_zreturn dX7_mayBegin_49 rfl (by decide) hQ (Nat.le_refl _) (Nat.le_refl _)
  have n0 := ne_int n0 (z := 17) rfl
  have n1 := ne_int n1 (z := 18) rfl
  have n2 := ne_int n2 (z := 19) rfl
  have n3 := ne_int n3 (z := 20) rfl
  have n4 := ne_int n4 (z := 21) rfl
  have n5 := ne_int n5 (z := 22) rfl
  refine r_tableD 50 dX7_mayBegin_8 (by omega) (by decide) ?_
  refine r_aload_n 0 dX7_mayBegin_50 rfl ?_
  obtain ⟨v2, ev2, h⟩ := bd0_some h
  refine q_cSI [.ref (G.2.1 x0)] dX7_mayBegin_51 cs_X7_97 rfl rfl (Nat.le_of_ble_eq_true rfl) (by omega) (kX7_isMeasure (d - 1) (by omega) x0 t0 v2 ev2) ?_
  obtain ⟨hbz, h⟩ := rZ_some h
  obtain rfl := Option.some.inj h
  exact r_zreturn dX7_mayBegin_54 rfl hbz hQ (Nat.le_refl _) (Nat.le_refl _)
theorem tX7_readPlain_b135 {l : Launch} {G : gg} {Γ : ly} {d : Nat} {Q : Option Value → ly → mm → Prop} (hdd : 2 ≤ d) (σ : mm) (x0 : Nat) (x3 : Nat) (x4 : Int32) (x5 : Int32)  (t0 : tyOK Γ (0, 7) x0) (t3 : tyOK Γ (100, 0) x3)  (r : (Int32 × mm)) (h : fX7_readPlain_b135 Γ.2 σ x0 x3 x4 x5 = some r) (hQ : Q (some (.int r.1)) Γ r.2) : WP l G yX7_readPlain cX7_readPlain 6 (some .boolean) d 0 0 Q 0 0 135 [(0, .ref (G.2.1 x0)), (3, .ref (G.2.1 x3)), (4, .int x4), (5, .int x5)] [] Γ σ := by
  unfold fX7_readPlain_b135 at h
  refine r_aload_n 0 dX7_readPlain_135 rfl ?_
  refine r_aload_n 1 dX7_readPlain_136 rfl ?_
  refine r_iload 2 dX7_readPlain_137 rfl ?_
  refine r_iload 3 dX7_readPlain_139 rfl ?_
  obtain ⟨v1, τ2, ev1, h⟩ := bd2_some h
  refine q_cVI [.ref (G.2.1 x3), .int x4, .int x5] dX7_readPlain_141 cv_X7_67 (ci := 7) rfl rfl t0 rfl rfl (Nat.le_of_ble_eq_true rfl) (by omega) (kX7_addStep (d - 1) (by omega) x0 x3 x4 x5 t0 t3 (v1, τ2) ev1) ?_
  obtain ⟨hbz, h⟩ := rZ_some h
  obtain rfl := Option.some.inj h
  exact r_zreturn dX7_readPlain_144 rfl hbz hQ (Nat.le_refl _) (Nat.le_refl _)
theorem tX7_readPlain_b107 {l : Launch} {G : gg} {Γ : ly} {d : Nat} {Q : Option Value → ly → mm → Prop} (hdd : 2 ≤ d) (σ : mm) (x0 : Nat) (x1 : Nat) (x3 : Nat) (x4 : Int32)  (t0 : tyOK Γ (0, 7) x0) (t1 : tyOK Γ (0, 8) x1) (t3 : tyOK Γ (100, 0) x3)  (r : (Int32 × mm)) (h : fX7_readPlain_b107 Γ.2 σ x0 x1 x3 x4 = some r) (hQ : Q (some (.int r.1)) Γ r.2) : WP l G yX7_readPlain cX7_readPlain 6 (some .boolean) d 0 0 Q 0 0 107 [(0, .ref (G.2.1 x0)), (1, .ref (G.2.1 x1)), (3, .ref (G.2.1 x3)), (4, .int x4)] [] Γ σ := by
  unfold fX7_readPlain_b107 at h
  refine r_aload_n 1 dX7_readPlain_107 rfl ?_
  obtain ⟨τ1, eτ1, h⟩ := bd0_some h
  refine q_cVV [] dX7_readPlain_108 cv_X7_44 (ci := 8) rfl rfl t1 rfl rfl (Nat.le_of_ble_eq_true rfl) (by omega) (kX8_next (d - 1) (by omega) x1 t1 τ1 eτ1) ?_
  refine r_aload_n 1 dX7_readPlain_111 rfl ?_
  refine r_getI dX7_readPlain_112 fd_X7_51 t1 ?_
  refine r_iconst (v := 3) dX7_readPlain_115 (by decide) ?_
  refine r_icmp_eq 125 dX7_readPlain_116 (by decide) h (fun _ h => ?_) (fun _ h => ?_)
  · refine r_aload_n 1 dX7_readPlain_125 rfl ?_
    refine r_getI dX7_readPlain_126 fd_X7_128 t1 ?_
    refine q_nmI h (fun v2 h => ?_)
    refine r_istore (lv' := [(5, .int v2), (0, .ref (G.2.1 x0)), (1, .ref (G.2.1 x1)), (3, .ref (G.2.1 x3)), (4, .int x4)]) dX7_readPlain_129 (by decide) rfl ?_
    refine r_aload_n 2 dX7_readPlain_131 rfl ?_
    obtain ⟨τ3, eτ3, h⟩ := bd0_some h
    refine q_cVV [] dX7_readPlain_132 cv_X7_44 (ci := 8) rfl rfl t1 rfl rfl (Nat.le_of_ble_eq_true rfl) (by omega) (kX8_next (d - 1) (by omega) x1 t1 τ3 eτ3) ?_
    refine r_pick [1, 3, 4, 0] rfl ?_
    exact tX7_readPlain_b135 hdd τ3 x0 x3 x4 v2 t0 t3 _ h hQ
  · refine r_aload_n 1 dX7_readPlain_119 rfl ?_
    refine r_iconst (v := 1) dX7_readPlain_120 (by decide) ?_
    obtain ⟨v4, τ5, ev4, h⟩ := bd2_some h
    refine q_cVI [.int (1 : Int32)] dX7_readPlain_121 cv_X7_54 (ci := 8) rfl rfl t1 rfl rfl (Nat.le_of_ble_eq_true rfl) (by omega) (kX8_fails (d - 1) (by omega) x1 (1 : Int32) t1 (v4, τ5) ev4) ?_
    obtain ⟨hbz, h⟩ := rZ_some h
    obtain rfl := Option.some.inj h
    exact r_zreturn dX7_readPlain_124 rfl hbz hQ (Nat.le_refl _) (Nat.le_refl _)
theorem kX7_readPlain {l : Launch} {G : gg} {Γ : ly} {σ : mm} (d : Nat) (hdd : 2 ≤ d) (x0 : Nat) (x1 : Nat) (x2 : Nat) (t0 : tyOK Γ (0, 7) x0) (t1 : tyOK Γ (0, 8) x1) (t2 : tyOK Γ (0, 4) x2) (r : (Int32 × mm)) (h : fX7_readPlain Γ.2 σ x0 x1 x2 = some r) : CT l G yX7_readPlain cX7_readPlain 6 (some .boolean) d 0 0 [.ref (G.2.1 x0), .ref (G.2.1 x1), .ref (G.2.1 x2)] Γ σ (PP (some (.int r.1)) Γ r.2) := by
  refine CT.ofWP (by decide) (Nat.le_of_ble_eq_true rfl) ?_
  have hQ : PP (some (.int r.1)) Γ r.2 (some (.int r.1)) Γ r.2 := PP.self
  generalize PP (some (.int r.1)) Γ r.2 = Q at hQ ⊢
  show WP l G yX7_readPlain cX7_readPlain 6 (some .boolean) d 0 0 Q 0 0 0 [(0, .ref (G.2.1 x0)), (1, .ref (G.2.1 x1)), (2, .ref (G.2.1 x2))] [] Γ σ
  unfold fX7_readPlain at h
  refine r_aload_n 1 dX7_readPlain_0 rfl ?_
  refine q_getR (e9 := (100, 0)) dX7_readPlain_1 fd_X7_61 t1 rfl h (fun r1 tr1 h => ?_)
  refine r_astore_n (lv' := [(3, .ref (G.2.1 r1)), (0, .ref (G.2.1 x0)), (1, .ref (G.2.1 x1)), (2, .ref (G.2.1 x2))]) dX7_readPlain_4 (by decide) rfl ?_
  refine r_iconst (v := 0) dX7_readPlain_5 (by decide) ?_
  refine r_istore (lv' := [(4, .int (0 : Int32)), (3, .ref (G.2.1 r1)), (0, .ref (G.2.1 x0)), (1, .ref (G.2.1 x1)), (2, .ref (G.2.1 x2))]) dX7_readPlain_6 (by decide) rfl ?_
  refine r_iconst (v := 0) dX7_readPlain_8 (by decide) ?_
  refine r_istore (lv' := [(5, .int (0 : Int32)), (4, .int (0 : Int32)), (3, .ref (G.2.1 r1)), (0, .ref (G.2.1 x0)), (1, .ref (G.2.1 x1)), (2, .ref (G.2.1 x2))]) dX7_readPlain_9 (by decide) rfl ?_
  refine r_aload_n 4 dX7_readPlain_11 rfl ?_
  obtain ⟨τ2, eτ2, h⟩ := bd0_some h
  refine q_cVV [] dX7_readPlain_12 cv_X7_44 (ci := 8) rfl rfl t1 rfl rfl (Nat.le_of_ble_eq_true rfl) (by omega) (kX8_next (d - 1) (by omega) x1 t1 τ2 eτ2) ?_
  refine r_aload_n 2 dX7_readPlain_15 rfl ?_
  refine r_word 26 dX7_readPlain_16 fw_X7_112 (by decide) ?_
  refine r_acmp_ne 67 dX7_readPlain_19 (by decide) tr1 (tyW (Γ := Γ) (i := 26) (by decide)) h (fun _ h => ?_) (fun _ h => ?_)
  · refine r_aload_n 2 dX7_readPlain_67 rfl ?_
    obtain ⟨v3, ev3, h⟩ := bd0_some h
    refine q_cSI [.ref (G.2.1 r1)] dX7_readPlain_68 cs_X7_97 rfl rfl (Nat.le_of_ble_eq_true rfl) (by omega) (kX7_isMeasure (d - 1) (by omega) r1 tr1 v3 ev3) ?_
    refine r_if_eq 135 dX7_readPlain_71 (by decide) h (fun _ h => ?_) (fun _ h => ?_)
    · refine r_pick [3, 2, 1, 0] rfl ?_
      exact tX7_readPlain_b135 hdd τ2 x0 r1 (0 : Int32) (0 : Int32) t0 tr1 _ h hQ
    · refine r_aload_n 4 dX7_readPlain_74 rfl ?_
      refine r_getI dX7_readPlain_75 fd_X7_51 t1 ?_
      refine q_nmI h (fun v4 h => ?_)
      refine r_istore (lv' := [(4, .int v4), (5, .int (0 : Int32)), (3, .ref (G.2.1 r1)), (0, .ref (G.2.1 x0)), (1, .ref (G.2.1 x1)), (2, .ref (G.2.1 x2))]) dX7_readPlain_78 (by decide) rfl ?_
      refine r_iload 0 dX7_readPlain_80 rfl ?_
      refine r_bipush (v := 60) dX7_readPlain_82 (by decide) ?_
      refine r_icmp_eq 107 dX7_readPlain_84 (by decide) h (fun _ h => ?_) (fun _ h => ?_)
      · refine r_pick [3, 4, 2, 0] rfl ?_
        exact tX7_readPlain_b107 hdd τ2 x0 x1 r1 v4 t0 t1 tr1 _ h hQ
      · refine r_iload 0 dX7_readPlain_87 rfl ?_
        refine r_bipush (v := 61) dX7_readPlain_89 (by decide) ?_
        refine r_icmp_eq 107 dX7_readPlain_91 (by decide) h (fun _ h => ?_) (fun _ h => ?_)
        · refine r_pick [3, 4, 2, 0] rfl ?_
          exact tX7_readPlain_b107 hdd τ2 x0 x1 r1 v4 t0 t1 tr1 _ h hQ
        · refine r_iload 0 dX7_readPlain_94 rfl ?_
          refine r_bipush (v := 62) dX7_readPlain_96 (by decide) ?_
          refine r_icmp_eq 107 dX7_readPlain_98 (by decide) h (fun _ h => ?_) (fun _ h => ?_)
          · refine r_pick [3, 4, 2, 0] rfl ?_
            exact tX7_readPlain_b107 hdd τ2 x0 x1 r1 v4 t0 t1 tr1 _ h hQ
          · refine r_aload_n 4 dX7_readPlain_101 rfl ?_
            refine r_iconst (v := 1) dX7_readPlain_102 (by decide) ?_
            obtain ⟨v5, τ6, ev5, h⟩ := bd2_some h
            refine q_cVI [.int (1 : Int32)] dX7_readPlain_103 cv_X7_54 (ci := 8) rfl rfl t1 rfl rfl (Nat.le_of_ble_eq_true rfl) (by omega) (kX8_fails (d - 1) (by omega) x1 (1 : Int32) t1 (v5, τ6) ev5) ?_
            obtain ⟨hbz, h⟩ := rZ_some h
            obtain rfl := Option.some.inj h
            exact r_zreturn dX7_readPlain_106 rfl hbz hQ (Nat.le_refl _) (Nat.le_refl _)
  · refine r_aload_n 4 dX7_readPlain_22 rfl ?_
    refine q_getR (e9 := (100, 0)) dX7_readPlain_23 fd_X7_61 t1 rfl h (fun r7 tr7 h => ?_)
    refine r_word 1 dX7_readPlain_26 fw_X7_115 (by decide) ?_
    refine r_acmp_eq 38 dX7_readPlain_29 (by decide) tr7 (tyW (Γ := Γ) (i := 1) (by decide)) h (fun _ h => ?_) (fun _ h => ?_)
    · refine r_aload_n 5 dX7_readPlain_38 rfl ?_
      refine r_aload_n 4 dX7_readPlain_39 rfl ?_
      refine r_getL dX7_readPlain_40 fd_X7_118 t1 ?_
      obtain ⟨v8, ev8, h⟩ := bd0_some h
      refine q_cVI [.long (τ2.2.1 x1 7)] dX7_readPlain_43 cv_X7_122 (ci := 4) rfl rfl t2 rfl rfl (Nat.le_of_ble_eq_true rfl) (by omega) (kX4_personNamed (d - 1) (by omega) x2 (τ2.2.1 x1 7) t2 v8 ev8) ?_
      refine r_istore (lv' := [(5, .int v8), (4, .int (0 : Int32)), (3, .ref (G.2.1 r1)), (0, .ref (G.2.1 x0)), (1, .ref (G.2.1 x1)), (2, .ref (G.2.1 x2))]) dX7_readPlain_46 (by decide) rfl ?_
      refine r_iload 0 dX7_readPlain_48 rfl ?_
      refine r_iconst (v := -1) dX7_readPlain_50 (by decide) ?_
      refine r_icmp_ne 60 dX7_readPlain_51 (by decide) h (fun _ h => ?_) (fun _ h => ?_)
      · refine r_aload_n 4 dX7_readPlain_60 rfl ?_
        obtain ⟨τ9, eτ9, h⟩ := bd0_some h
        refine q_cVV [] dX7_readPlain_61 cv_X7_44 (ci := 8) rfl rfl t1 rfl rfl (Nat.le_of_ble_eq_true rfl) (by omega) (kX8_next (d - 1) (by omega) x1 t1 τ9 eτ9) ?_
        refine r_goto 135 dX7_readPlain_64 (by decide) ?_
        refine r_pick [3, 2, 1, 0] rfl ?_
        exact tX7_readPlain_b135 hdd τ9 x0 r1 (0 : Int32) v8 t0 tr1 _ h hQ
      · refine r_aload_n 4 dX7_readPlain_54 rfl ?_
        refine r_iconst (v := 3) dX7_readPlain_55 (by decide) ?_
        obtain ⟨v10, τ11, ev10, h⟩ := bd2_some h
        refine q_cVI [.int (3 : Int32)] dX7_readPlain_56 cv_X7_54 (ci := 8) rfl rfl t1 rfl rfl (Nat.le_of_ble_eq_true rfl) (by omega) (kX8_fails (d - 1) (by omega) x1 (3 : Int32) t1 (v10, τ11) ev10) ?_
        obtain ⟨hbz, h⟩ := rZ_some h
        obtain rfl := Option.some.inj h
        exact r_zreturn dX7_readPlain_59 rfl hbz hQ (Nat.le_refl _) (Nat.le_refl _)
    · refine r_aload_n 4 dX7_readPlain_32 rfl ?_
      refine r_iconst (v := 1) dX7_readPlain_33 (by decide) ?_
      obtain ⟨v12, τ13, ev12, h⟩ := bd2_some h
      refine q_cVI [.int (1 : Int32)] dX7_readPlain_34 cv_X7_54 (ci := 8) rfl rfl t1 rfl rfl (Nat.le_of_ble_eq_true rfl) (by omega) (kX8_fails (d - 1) (by omega) x1 (1 : Int32) t1 (v12, τ13) ev12) ?_
      obtain ⟨hbz, h⟩ := rZ_some h
      obtain rfl := Option.some.inj h
      exact r_zreturn dX7_readPlain_37 rfl hbz hQ (Nat.le_refl _) (Nat.le_refl _)
theorem tX7_readOne_b52 {l : Launch} {G : gg} {Γ : ly} {d : Nat} {Q : Option Value → ly → mm → Prop} (hdd : 3 ≤ d) {F : Nat → mm → Nat → Nat → Nat → Int32 → Option (Int32 × mm)} {e : Nat} (hde : e + 1 ≤ d) (hF0 : ∀ (d : Nat), e ≤ d → ∀ (σ : mm) (x0 : Nat) (x1 : Nat) (x2 : Nat) (x3 : Int32), tyOK Γ (0, 7) x0 → tyOK Γ (0, 8) x1 → tyOK Γ (0, 4) x2 → ∀ r, F 0 σ x0 x1 x2 x3 = some r → CT l G yX7_readAll cX7_readAll 5 (some .boolean) d 0 0 [.ref (G.2.1 x0), .ref (G.2.1 x1), .ref (G.2.1 x2), .int x3] Γ σ (PP (some (.int r.1)) Γ r.2)) (hF1 : ∀ (d : Nat), e ≤ d → ∀ (σ : mm) (x0 : Nat) (x1 : Nat) (x2 : Nat) (x3 : Int32), tyOK Γ (0, 7) x0 → tyOK Γ (0, 8) x1 → tyOK Γ (0, 4) x2 → ∀ r, F 1 σ x0 x1 x2 x3 = some r → CT l G yX7_readCond cX7_readCond 5 (some .boolean) d 0 0 [.ref (G.2.1 x0), .ref (G.2.1 x1), .ref (G.2.1 x2), .int x3] Γ σ (PP (some (.int r.1)) Γ r.2)) (hF2 : ∀ (d : Nat), e ≤ d → ∀ (σ : mm) (x0 : Nat) (x1 : Nat) (x2 : Nat) (x3 : Int32), tyOK Γ (0, 7) x0 → tyOK Γ (0, 8) x1 → tyOK Γ (0, 4) x2 → ∀ r, F 2 σ x0 x1 x2 x3 = some r → CT l G yX7_readOne cX7_readOne 5 (some .boolean) d 0 0 [.ref (G.2.1 x0), .ref (G.2.1 x1), .ref (G.2.1 x2), .int x3] Γ σ (PP (some (.int r.1)) Γ r.2)) (σ : mm) (x1 : Nat)  (t1 : tyOK Γ (0, 8) x1)  (r : (Int32 × mm)) (h : fX7_readOne_b52 F Γ.2 σ x1 = some r) (hQ : Q (some (.int r.1)) Γ r.2) : WP l G yX7_readOne cX7_readOne 5 (some .boolean) d 0 0 Q 0 0 52 [(1, .ref (G.2.1 x1))] [] Γ σ := by
  unfold fX7_readOne_b52 at h
  refine r_aload_n 0 dX7_readOne_52 rfl ?_
  refine r_iconst (v := 4) dX7_readOne_53 (by decide) ?_
  obtain ⟨v1, τ2, ev1, h⟩ := bd2_some h
  refine q_cVI [.int (4 : Int32)] dX7_readOne_54 cv_X7_54 (ci := 8) rfl rfl t1 rfl rfl (Nat.le_of_ble_eq_true rfl) (by omega) (kX8_fails (d - 1) (by omega) x1 (4 : Int32) t1 (v1, τ2) ev1) ?_
  obtain ⟨hbz, h⟩ := rZ_some h
  obtain rfl := Option.some.inj h
  exact r_zreturn dX7_readOne_57 rfl hbz hQ (Nat.le_refl _) (Nat.le_refl _)
theorem tX7_readOne_b111 {l : Launch} {G : gg} {Γ : ly} {d : Nat} {Q : Option Value → ly → mm → Prop} (hdd : 3 ≤ d) {F : Nat → mm → Nat → Nat → Nat → Int32 → Option (Int32 × mm)} {e : Nat} (hde : e + 1 ≤ d) (hF0 : ∀ (d : Nat), e ≤ d → ∀ (σ : mm) (x0 : Nat) (x1 : Nat) (x2 : Nat) (x3 : Int32), tyOK Γ (0, 7) x0 → tyOK Γ (0, 8) x1 → tyOK Γ (0, 4) x2 → ∀ r, F 0 σ x0 x1 x2 x3 = some r → CT l G yX7_readAll cX7_readAll 5 (some .boolean) d 0 0 [.ref (G.2.1 x0), .ref (G.2.1 x1), .ref (G.2.1 x2), .int x3] Γ σ (PP (some (.int r.1)) Γ r.2)) (hF1 : ∀ (d : Nat), e ≤ d → ∀ (σ : mm) (x0 : Nat) (x1 : Nat) (x2 : Nat) (x3 : Int32), tyOK Γ (0, 7) x0 → tyOK Γ (0, 8) x1 → tyOK Γ (0, 4) x2 → ∀ r, F 1 σ x0 x1 x2 x3 = some r → CT l G yX7_readCond cX7_readCond 5 (some .boolean) d 0 0 [.ref (G.2.1 x0), .ref (G.2.1 x1), .ref (G.2.1 x2), .int x3] Γ σ (PP (some (.int r.1)) Γ r.2)) (hF2 : ∀ (d : Nat), e ≤ d → ∀ (σ : mm) (x0 : Nat) (x1 : Nat) (x2 : Nat) (x3 : Int32), tyOK Γ (0, 7) x0 → tyOK Γ (0, 8) x1 → tyOK Γ (0, 4) x2 → ∀ r, F 2 σ x0 x1 x2 x3 = some r → CT l G yX7_readOne cX7_readOne 5 (some .boolean) d 0 0 [.ref (G.2.1 x0), .ref (G.2.1 x1), .ref (G.2.1 x2), .int x3] Γ σ (PP (some (.int r.1)) Γ r.2)) (σ : mm)  (s0 : Int32)   (r : (Int32 × mm)) (h : fX7_readOne_b111 F Γ.2 σ s0 = some r) (hQ : Q (some (.int r.1)) Γ r.2) : WP l G yX7_readOne cX7_readOne 5 (some .boolean) d 0 0 Q 0 0 111 [] [.int s0] Γ σ := by
  unfold fX7_readOne_b111 at h
  obtain ⟨hbz, h⟩ := rZ_some h
  obtain rfl := Option.some.inj h
  exact r_zreturn dX7_readOne_111 rfl hbz hQ (Nat.le_refl _) (Nat.le_refl _)
theorem tX7_readOne_b110 {l : Launch} {G : gg} {Γ : ly} {d : Nat} {Q : Option Value → ly → mm → Prop} (hdd : 3 ≤ d) {F : Nat → mm → Nat → Nat → Nat → Int32 → Option (Int32 × mm)} {e : Nat} (hde : e + 1 ≤ d) (hF0 : ∀ (d : Nat), e ≤ d → ∀ (σ : mm) (x0 : Nat) (x1 : Nat) (x2 : Nat) (x3 : Int32), tyOK Γ (0, 7) x0 → tyOK Γ (0, 8) x1 → tyOK Γ (0, 4) x2 → ∀ r, F 0 σ x0 x1 x2 x3 = some r → CT l G yX7_readAll cX7_readAll 5 (some .boolean) d 0 0 [.ref (G.2.1 x0), .ref (G.2.1 x1), .ref (G.2.1 x2), .int x3] Γ σ (PP (some (.int r.1)) Γ r.2)) (hF1 : ∀ (d : Nat), e ≤ d → ∀ (σ : mm) (x0 : Nat) (x1 : Nat) (x2 : Nat) (x3 : Int32), tyOK Γ (0, 7) x0 → tyOK Γ (0, 8) x1 → tyOK Γ (0, 4) x2 → ∀ r, F 1 σ x0 x1 x2 x3 = some r → CT l G yX7_readCond cX7_readCond 5 (some .boolean) d 0 0 [.ref (G.2.1 x0), .ref (G.2.1 x1), .ref (G.2.1 x2), .int x3] Γ σ (PP (some (.int r.1)) Γ r.2)) (hF2 : ∀ (d : Nat), e ≤ d → ∀ (σ : mm) (x0 : Nat) (x1 : Nat) (x2 : Nat) (x3 : Int32), tyOK Γ (0, 7) x0 → tyOK Γ (0, 8) x1 → tyOK Γ (0, 4) x2 → ∀ r, F 2 σ x0 x1 x2 x3 = some r → CT l G yX7_readOne cX7_readOne 5 (some .boolean) d 0 0 [.ref (G.2.1 x0), .ref (G.2.1 x1), .ref (G.2.1 x2), .int x3] Γ σ (PP (some (.int r.1)) Γ r.2)) (σ : mm)     (r : (Int32 × mm)) (h : fX7_readOne_b110 F Γ.2 σ  = some r) (hQ : Q (some (.int r.1)) Γ r.2) : WP l G yX7_readOne cX7_readOne 5 (some .boolean) d 0 0 Q 0 0 110 [] [] Γ σ := by
  unfold fX7_readOne_b110 at h
  refine r_iconst (v := 0) dX7_readOne_110 (by decide) ?_
  exact tX7_readOne_b111 hdd hde hF0 hF1 hF2 σ (0 : Int32)  _ h hQ
theorem tX7_readOne_b37 {l : Launch} {G : gg} {Γ : ly} {d : Nat} {Q : Option Value → ly → mm → Prop} (hdd : 3 ≤ d) {F : Nat → mm → Nat → Nat → Nat → Int32 → Option (Int32 × mm)} {e : Nat} (hde : e + 1 ≤ d) (hF0 : ∀ (d : Nat), e ≤ d → ∀ (σ : mm) (x0 : Nat) (x1 : Nat) (x2 : Nat) (x3 : Int32), tyOK Γ (0, 7) x0 → tyOK Γ (0, 8) x1 → tyOK Γ (0, 4) x2 → ∀ r, F 0 σ x0 x1 x2 x3 = some r → CT l G yX7_readAll cX7_readAll 5 (some .boolean) d 0 0 [.ref (G.2.1 x0), .ref (G.2.1 x1), .ref (G.2.1 x2), .int x3] Γ σ (PP (some (.int r.1)) Γ r.2)) (hF1 : ∀ (d : Nat), e ≤ d → ∀ (σ : mm) (x0 : Nat) (x1 : Nat) (x2 : Nat) (x3 : Int32), tyOK Γ (0, 7) x0 → tyOK Γ (0, 8) x1 → tyOK Γ (0, 4) x2 → ∀ r, F 1 σ x0 x1 x2 x3 = some r → CT l G yX7_readCond cX7_readCond 5 (some .boolean) d 0 0 [.ref (G.2.1 x0), .ref (G.2.1 x1), .ref (G.2.1 x2), .int x3] Γ σ (PP (some (.int r.1)) Γ r.2)) (hF2 : ∀ (d : Nat), e ≤ d → ∀ (σ : mm) (x0 : Nat) (x1 : Nat) (x2 : Nat) (x3 : Int32), tyOK Γ (0, 7) x0 → tyOK Γ (0, 8) x1 → tyOK Γ (0, 4) x2 → ∀ r, F 2 σ x0 x1 x2 x3 = some r → CT l G yX7_readOne cX7_readOne 5 (some .boolean) d 0 0 [.ref (G.2.1 x0), .ref (G.2.1 x1), .ref (G.2.1 x2), .int x3] Γ σ (PP (some (.int r.1)) Γ r.2)) (σ : mm) (x0 : Nat) (x1 : Nat) (x2 : Nat) (x3 : Int32) (x4 : Int32)  (t0 : tyOK Γ (0, 7) x0) (t1 : tyOK Γ (0, 8) x1) (t2 : tyOK Γ (0, 4) x2)  (r : (Int32 × mm)) (h : fX7_readOne_b37 F Γ.2 σ x0 x1 x2 x3 x4 = some r) (hQ : Q (some (.int r.1)) Γ r.2) : WP l G yX7_readOne cX7_readOne 5 (some .boolean) d 0 0 Q 0 0 37 [(0, .ref (G.2.1 x0)), (1, .ref (G.2.1 x1)), (2, .ref (G.2.1 x2)), (3, .int x3), (4, .int x4)] [] Γ σ := by
  unfold fX7_readOne_b37 at h
  refine r_aload_n 0 dX7_readOne_37 rfl ?_
  refine r_getI dX7_readOne_38 fd_X7_28 t0 ?_
  refine r_bipush (v := 20) dX7_readOne_41 (by decide) ?_
  refine r_icmp_ge 52 dX7_readOne_43 (by decide) h (fun _ h => ?_) (fun _ h => ?_)
  · refine r_pick [1] rfl ?_
    exact tX7_readOne_b52 hdd hde hF0 hF1 hF2 σ x1 t1 _ h hQ
  · refine r_iload_n 3 dX7_readOne_46 rfl ?_
    refine r_bipush (v := 8) dX7_readOne_47 (by decide) ?_
    refine r_icmp_lt 58 dX7_readOne_49 (by decide) h (fun _ h => ?_) (fun _ h => ?_)
    · refine r_aload_n 0 dX7_readOne_58 rfl ?_
      refine r_dup dX7_readOne_59 rfl ?_
      refine r_getI dX7_readOne_60 fd_X7_28 t0 ?_
      refine r_iconst (v := 1) dX7_readOne_63 (by decide) ?_
      refine r_iadd dX7_readOne_64 ?_
      refine q_putI dX7_readOne_65 fd_X7_28 t0 h (fun τ1 h => ?_)
      refine r_aload_n 1 dX7_readOne_68 rfl ?_
      refine q_getR (e9 := (100, 0)) dX7_readOne_69 fd_X7_61 t1 rfl h (fun r2 tr2 h => ?_)
      refine r_word 21 dX7_readOne_72 fw_X7_81 (by decide) ?_
      refine r_acmp_ne 112 dX7_readOne_75 (by decide) tr2 (tyW (Γ := Γ) (i := 21) (by decide)) h (fun _ h => ?_) (fun _ h => ?_)
      · refine r_iload 4 dX7_readOne_112 rfl ?_
        refine r_if_ne 124 dX7_readOne_114 (by decide) h (fun _ h => ?_) (fun _ h => ?_)
        · refine r_aload_n 1 dX7_readOne_124 rfl ?_
          obtain ⟨τ3, eτ3, h⟩ := bd0_some h
          refine q_cVV [] dX7_readOne_125 cv_X7_44 (ci := 8) rfl rfl t1 rfl rfl (Nat.le_of_ble_eq_true rfl) (by omega) (kX8_next (d - 1) (by omega) x1 t1 τ3 eτ3) ?_
          refine r_aload_n 0 dX7_readOne_128 rfl ?_
          refine r_aload_n 1 dX7_readOne_129 rfl ?_
          refine r_aload_n 2 dX7_readOne_130 rfl ?_
          refine r_iload_n 3 dX7_readOne_131 rfl ?_
          refine r_iconst (v := 1) dX7_readOne_132 (by decide) ?_
          refine r_iadd dX7_readOne_133 ?_
          obtain ⟨v4, τ5, ev4, h⟩ := bd2_some h
          refine q_cVI [.ref (G.2.1 x1), .ref (G.2.1 x2), .int (x3 + (1 : Int32))] dX7_readOne_134 cv_X7_47 (ci := 7) rfl rfl t0 rfl rfl (Nat.le_of_ble_eq_true rfl) (by omega) (hF1 (d - 1) (by omega) τ3 x0 x1 x2 (x3 + (1 : Int32)) t0 t1 t2 (v4, τ5) ev4) ?_
          refine r_if_ne 142 dX7_readOne_137 (by decide) h (fun _ h => ?_) (fun _ h => ?_)
          · refine r_aload_n 1 dX7_readOne_142 rfl ?_
            refine r_getI dX7_readOne_143 fd_X7_51 t1 ?_
            refine r_bipush (v := 41) dX7_readOne_146 (by decide) ?_
            refine r_icmp_eq 157 dX7_readOne_148 (by decide) h (fun _ h => ?_) (fun _ h => ?_)
            · refine r_aload_n 1 dX7_readOne_157 rfl ?_
              obtain ⟨τ6, eτ6, h⟩ := bd0_some h
              refine q_cVV [] dX7_readOne_158 cv_X7_44 (ci := 8) rfl rfl t1 rfl rfl (Nat.le_of_ble_eq_true rfl) (by omega) (kX8_next (d - 1) (by omega) x1 t1 τ6 eτ6) ?_
              refine r_iconst (v := 1) dX7_readOne_161 (by decide) ?_
              obtain rfl := Option.some.inj h
              exact r_zreturn dX7_readOne_162 rfl (by decide) hQ (Nat.le_refl _) (Nat.le_refl _)
            · refine r_aload_n 1 dX7_readOne_151 rfl ?_
              refine r_iconst (v := 1) dX7_readOne_152 (by decide) ?_
              obtain ⟨v7, τ8, ev7, h⟩ := bd2_some h
              refine q_cVI [.int (1 : Int32)] dX7_readOne_153 cv_X7_54 (ci := 8) rfl rfl t1 rfl rfl (Nat.le_of_ble_eq_true rfl) (by omega) (kX8_fails (d - 1) (by omega) x1 (1 : Int32) t1 (v7, τ8) ev7) ?_
              obtain ⟨hbz, h⟩ := rZ_some h
              obtain rfl := Option.some.inj h
              exact r_zreturn dX7_readOne_156 rfl hbz hQ (Nat.le_refl _) (Nat.le_refl _)
          · refine r_iconst (v := 0) dX7_readOne_140 (by decide) ?_
            obtain rfl := Option.some.inj h
            exact r_zreturn dX7_readOne_141 rfl (by decide) hQ (Nat.le_refl _) (Nat.le_refl _)
        · refine r_aload_n 0 dX7_readOne_117 rfl ?_
          refine r_aload_n 1 dX7_readOne_118 rfl ?_
          refine r_aload_n 2 dX7_readOne_119 rfl ?_
          obtain ⟨v9, τ10, ev9, h⟩ := bd2_some h
          refine q_cVI [.ref (G.2.1 x1), .ref (G.2.1 x2)] dX7_readOne_120 cv_X7_84 (ci := 7) rfl rfl t0 rfl rfl (Nat.le_of_ble_eq_true rfl) (by omega) (kX7_readPlain (d - 1) (by omega) x0 x1 x2 t0 t1 t2 (v9, τ10) ev9) ?_
          obtain ⟨hbz, h⟩ := rZ_some h
          obtain rfl := Option.some.inj h
          exact r_zreturn dX7_readOne_123 rfl hbz hQ (Nat.le_refl _) (Nat.le_refl _)
      · refine r_aload_n 1 dX7_readOne_78 rfl ?_
        obtain ⟨τ11, eτ11, h⟩ := bd0_some h
        refine q_cVV [] dX7_readOne_79 cv_X7_44 (ci := 8) rfl rfl t1 rfl rfl (Nat.le_of_ble_eq_true rfl) (by omega) (kX8_next (d - 1) (by omega) x1 t1 τ11 eτ11) ?_
        refine r_aload_n 0 dX7_readOne_82 rfl ?_
        refine r_aload_n 1 dX7_readOne_83 rfl ?_
        refine r_aload_n 2 dX7_readOne_84 rfl ?_
        refine r_iload_n 3 dX7_readOne_85 rfl ?_
        refine r_iconst (v := 1) dX7_readOne_86 (by decide) ?_
        refine r_iadd dX7_readOne_87 ?_
        obtain ⟨v12, τ13, ev12, h⟩ := bd2_some h
        refine q_cVI [.ref (G.2.1 x1), .ref (G.2.1 x2), .int (x3 + (1 : Int32))] dX7_readOne_88 cv_X7_71 (ci := 7) rfl rfl t0 rfl rfl (Nat.le_of_ble_eq_true rfl) (by omega) (hF2 (d - 1) (by omega) τ11 x0 x1 x2 (x3 + (1 : Int32)) t0 t1 t2 (v12, τ13) ev12) ?_
        refine r_if_eq 110 dX7_readOne_91 (by decide) h (fun _ h => ?_) (fun _ h => ?_)
        · refine r_pick [] rfl ?_
          exact tX7_readOne_b110 hdd hde hF0 hF1 hF2 τ13  _ h hQ
        · refine r_aload_n 0 dX7_readOne_94 rfl ?_
          refine r_word 21 dX7_readOne_95 fw_X7_81 (by decide) ?_
          refine r_iconst (v := 0) dX7_readOne_98 (by decide) ?_
          refine r_iconst (v := 0) dX7_readOne_99 (by decide) ?_
          obtain ⟨v14, τ15, ev14, h⟩ := bd2_some h
          refine q_cVI [.ref (G.2.1 21), .int (0 : Int32), .int (0 : Int32)] dX7_readOne_100 cv_X7_67 (ci := 7) rfl rfl t0 rfl rfl (Nat.le_of_ble_eq_true rfl) (by omega) (kX7_addStep (d - 1) (by omega) x0 21 (0 : Int32) (0 : Int32) t0 (tyW (Γ := Γ) (i := 21) (by decide)) (v14, τ15) ev14) ?_
          refine r_if_eq 110 dX7_readOne_103 (by decide) h (fun _ h => ?_) (fun _ h => ?_)
          · refine r_pick [] rfl ?_
            exact tX7_readOne_b110 hdd hde hF0 hF1 hF2 τ15  _ h hQ
          · refine r_iconst (v := 1) dX7_readOne_106 (by decide) ?_
            refine r_goto 111 dX7_readOne_107 (by decide) ?_
            refine r_pick [] rfl ?_
            exact tX7_readOne_b111 hdd hde hF0 hF1 hF2 τ15 (1 : Int32)  _ h hQ
    · refine r_pick [1] rfl ?_
      exact tX7_readOne_b52 hdd hde hF0 hF1 hF2 σ x1 t1 _ h hQ
theorem tX7_readOne_b14 {l : Launch} {G : gg} {Γ : ly} {d : Nat} {Q : Option Value → ly → mm → Prop} (hdd : 3 ≤ d) {F : Nat → mm → Nat → Nat → Nat → Int32 → Option (Int32 × mm)} {e : Nat} (hde : e + 1 ≤ d) (hF0 : ∀ (d : Nat), e ≤ d → ∀ (σ : mm) (x0 : Nat) (x1 : Nat) (x2 : Nat) (x3 : Int32), tyOK Γ (0, 7) x0 → tyOK Γ (0, 8) x1 → tyOK Γ (0, 4) x2 → ∀ r, F 0 σ x0 x1 x2 x3 = some r → CT l G yX7_readAll cX7_readAll 5 (some .boolean) d 0 0 [.ref (G.2.1 x0), .ref (G.2.1 x1), .ref (G.2.1 x2), .int x3] Γ σ (PP (some (.int r.1)) Γ r.2)) (hF1 : ∀ (d : Nat), e ≤ d → ∀ (σ : mm) (x0 : Nat) (x1 : Nat) (x2 : Nat) (x3 : Int32), tyOK Γ (0, 7) x0 → tyOK Γ (0, 8) x1 → tyOK Γ (0, 4) x2 → ∀ r, F 1 σ x0 x1 x2 x3 = some r → CT l G yX7_readCond cX7_readCond 5 (some .boolean) d 0 0 [.ref (G.2.1 x0), .ref (G.2.1 x1), .ref (G.2.1 x2), .int x3] Γ σ (PP (some (.int r.1)) Γ r.2)) (hF2 : ∀ (d : Nat), e ≤ d → ∀ (σ : mm) (x0 : Nat) (x1 : Nat) (x2 : Nat) (x3 : Int32), tyOK Γ (0, 7) x0 → tyOK Γ (0, 8) x1 → tyOK Γ (0, 4) x2 → ∀ r, F 2 σ x0 x1 x2 x3 = some r → CT l G yX7_readOne cX7_readOne 5 (some .boolean) d 0 0 [.ref (G.2.1 x0), .ref (G.2.1 x1), .ref (G.2.1 x2), .int x3] Γ σ (PP (some (.int r.1)) Γ r.2)) (σ : mm) (x0 : Nat) (x1 : Nat) (x2 : Nat) (x3 : Int32) (s0 : Int32) (t0 : tyOK Γ (0, 7) x0) (t1 : tyOK Γ (0, 8) x1) (t2 : tyOK Γ (0, 4) x2)  (r : (Int32 × mm)) (h : fX7_readOne_b14 F Γ.2 σ x0 x1 x2 x3 s0 = some r) (hQ : Q (some (.int r.1)) Γ r.2) : WP l G yX7_readOne cX7_readOne 5 (some .boolean) d 0 0 Q 0 0 14 [(0, .ref (G.2.1 x0)), (1, .ref (G.2.1 x1)), (2, .ref (G.2.1 x2)), (3, .int x3)] [.int s0] Γ σ := by
  unfold fX7_readOne_b14 at h
  refine r_istore (lv' := [(4, .int s0), (0, .ref (G.2.1 x0)), (1, .ref (G.2.1 x1)), (2, .ref (G.2.1 x2)), (3, .int x3)]) dX7_readOne_14 (by decide) rfl ?_
  refine r_iload 0 dX7_readOne_16 rfl ?_
  refine r_if_ne 37 dX7_readOne_18 (by decide) h (fun _ h => ?_) (fun _ h => ?_)
  · refine r_pick [1, 2, 3, 4, 0] rfl ?_
    exact tX7_readOne_b37 hdd hde hF0 hF1 hF2 σ x0 x1 x2 x3 s0 t0 t1 t2 _ h hQ
  · refine r_aload_n 2 dX7_readOne_21 rfl ?_
    refine q_getR (e9 := (100, 0)) dX7_readOne_22 fd_X7_61 t1 rfl h (fun r1 tr1 h => ?_)
    obtain ⟨v2, ev2, h⟩ := bd0_some h
    refine q_cSI [.ref (G.2.1 r1)] dX7_readOne_25 cs_X7_77 rfl rfl (Nat.le_of_ble_eq_true rfl) (by omega) (kX7_mayBegin (d - 1) (by omega) r1 tr1 v2 ev2) ?_
    refine r_if_ne 37 dX7_readOne_28 (by decide) h (fun _ h => ?_) (fun _ h => ?_)
    · refine r_pick [1, 2, 3, 4, 0] rfl ?_
      exact tX7_readOne_b37 hdd hde hF0 hF1 hF2 σ x0 x1 x2 x3 s0 t0 t1 t2 _ h hQ
    · refine r_aload_n 2 dX7_readOne_31 rfl ?_
      refine r_iconst (v := 1) dX7_readOne_32 (by decide) ?_
      obtain ⟨v3, τ4, ev3, h⟩ := bd2_some h
      refine q_cVI [.int (1 : Int32)] dX7_readOne_33 cv_X7_54 (ci := 8) rfl rfl t1 rfl rfl (Nat.le_of_ble_eq_true rfl) (by omega) (kX8_fails (d - 1) (by omega) x1 (1 : Int32) t1 (v3, τ4) ev3) ?_
      obtain ⟨hbz, h⟩ := rZ_some h
      obtain rfl := Option.some.inj h
      exact r_zreturn dX7_readOne_36 rfl hbz hQ (Nat.le_refl _) (Nat.le_refl _)
theorem kX7_readOne {l : Launch} {G : gg} {Γ : ly} {σ : mm} (d : Nat) (hdd : 3 ≤ d) {F : Nat → mm → Nat → Nat → Nat → Int32 → Option (Int32 × mm)} {e : Nat} (hde : e + 1 ≤ d) (hF0 : ∀ (d : Nat), e ≤ d → ∀ (σ : mm) (x0 : Nat) (x1 : Nat) (x2 : Nat) (x3 : Int32), tyOK Γ (0, 7) x0 → tyOK Γ (0, 8) x1 → tyOK Γ (0, 4) x2 → ∀ r, F 0 σ x0 x1 x2 x3 = some r → CT l G yX7_readAll cX7_readAll 5 (some .boolean) d 0 0 [.ref (G.2.1 x0), .ref (G.2.1 x1), .ref (G.2.1 x2), .int x3] Γ σ (PP (some (.int r.1)) Γ r.2)) (hF1 : ∀ (d : Nat), e ≤ d → ∀ (σ : mm) (x0 : Nat) (x1 : Nat) (x2 : Nat) (x3 : Int32), tyOK Γ (0, 7) x0 → tyOK Γ (0, 8) x1 → tyOK Γ (0, 4) x2 → ∀ r, F 1 σ x0 x1 x2 x3 = some r → CT l G yX7_readCond cX7_readCond 5 (some .boolean) d 0 0 [.ref (G.2.1 x0), .ref (G.2.1 x1), .ref (G.2.1 x2), .int x3] Γ σ (PP (some (.int r.1)) Γ r.2)) (hF2 : ∀ (d : Nat), e ≤ d → ∀ (σ : mm) (x0 : Nat) (x1 : Nat) (x2 : Nat) (x3 : Int32), tyOK Γ (0, 7) x0 → tyOK Γ (0, 8) x1 → tyOK Γ (0, 4) x2 → ∀ r, F 2 σ x0 x1 x2 x3 = some r → CT l G yX7_readOne cX7_readOne 5 (some .boolean) d 0 0 [.ref (G.2.1 x0), .ref (G.2.1 x1), .ref (G.2.1 x2), .int x3] Γ σ (PP (some (.int r.1)) Γ r.2)) (x0 : Nat) (x1 : Nat) (x2 : Nat) (x3 : Int32) (t0 : tyOK Γ (0, 7) x0) (t1 : tyOK Γ (0, 8) x1) (t2 : tyOK Γ (0, 4) x2) (r : (Int32 × mm)) (h : fX7_readOne F Γ.2 σ x0 x1 x2 x3 = some r) : CT l G yX7_readOne cX7_readOne 5 (some .boolean) d 0 0 [.ref (G.2.1 x0), .ref (G.2.1 x1), .ref (G.2.1 x2), .int x3] Γ σ (PP (some (.int r.1)) Γ r.2) := by
  refine CT.ofWP (by decide) (Nat.le_of_ble_eq_true rfl) ?_
  have hQ : PP (some (.int r.1)) Γ r.2 (some (.int r.1)) Γ r.2 := PP.self
  generalize PP (some (.int r.1)) Γ r.2 = Q at hQ ⊢
  show WP l G yX7_readOne cX7_readOne 5 (some .boolean) d 0 0 Q 0 0 0 [(0, .ref (G.2.1 x0)), (1, .ref (G.2.1 x1)), (2, .ref (G.2.1 x2)), (3, .int x3)] [] Γ σ
  unfold fX7_readOne at h
  refine r_aload_n 1 dX7_readOne_0 rfl ?_
  refine r_getI dX7_readOne_1 fd_X7_51 t1 ?_
  refine r_bipush (v := 40) dX7_readOne_4 (by decide) ?_
  refine r_icmp_ne 13 dX7_readOne_6 (by decide) h (fun _ h => ?_) (fun _ h => ?_)
  · refine r_iconst (v := 0) dX7_readOne_13 (by decide) ?_
    exact tX7_readOne_b14 hdd hde hF0 hF1 hF2 σ x0 x1 x2 x3 (0 : Int32) t0 t1 t2 _ h hQ
  · refine r_iconst (v := 1) dX7_readOne_9 (by decide) ?_
    refine r_goto 14 dX7_readOne_10 (by decide) ?_
    exact tX7_readOne_b14 hdd hde hF0 hF1 hF2 σ x0 x1 x2 x3 (1 : Int32) t0 t1 t2 _ h hQ
