/-! the walks, 1 -/
theorem tX1_lapseHour_b105 {l : Launch} {G : gg} {Γ : ly} {d : Nat} {Q : Option Value → ly → mm → Prop} (hdd : 2 ≤ d) (σ : mm) (x0 : Nat) (x2 : Int32) (x3 : Int32) (x4 : Int32) (x5 : Int32) (x6 : Int32)  (t0 : tyOK Γ (0, 1) x0)  (r : ((Int32 × Int32 × Int32) ⊕ (Int32 ⊕ Unit))) (h : fX1_lapseHour_b105 Γ.2 σ x0 x2 x3 x4 x5 x6 = some r) (hb : ∀ (x4 : Int32) (x5 : Int32) (x6 : Int32), r = .inl (x4, x5, x6) → WP l G yX1_lapseHour cX1_lapseHour 7 (some .int) d 0 0 Q 0 0 26 [(0, .ref (G.2.1 x0)), (2, .int x2), (3, .int x3), (4, .int x4), (5, .int x5), (6, .int x6)] [] Γ σ) (hx0 : ∀ (x6 : Int32), r = .inr (.inl x6) → WP l G yX1_lapseHour cX1_lapseHour 7 (some .int) d 0 0 Q 0 0 102 [(6, .int x6)] [] Γ σ) (hx1 : r = .inr (.inr ()) → WP l G yX1_lapseHour cX1_lapseHour 7 (some .int) d 0 0 Q 0 0 111 [] [] Γ σ) : WP l G yX1_lapseHour cX1_lapseHour 7 (some .int) d 0 0 Q 0 0 105 [(0, .ref (G.2.1 x0)), (2, .int x2), (3, .int x3), (4, .int x4), (5, .int x5), (6, .int x6)] [] Γ σ := by
  unfold fX1_lapseHour_b105 at h
  refine q_iinc (v := 1) 5 (fun v1 => [(6, .int v1), (0, .ref (G.2.1 x0)), (2, .int x2), (3, .int x3), (4, .int x4), (5, .int x5)]) dX1_lapseHour_105 rfl (by decide) (by decide) (fun _ => rfl) h (fun v1 h => ?_)
  refine r_goto 26 dX1_lapseHour_108 (by decide) ?_
  obtain rfl := Option.some.inj h
  refine r_pick [1, 2, 3, 4, 5, 0] rfl ?_
  exact hb _ _ _ rfl
theorem sX1_lapseHour_L26 {l : Launch} {G : gg} {Γ : ly} {d : Nat} {Q : Option Value → ly → mm → Prop} (hdd : 2 ≤ d) (σ : mm) (x0 : Nat) (x2 : Int32) (x3 : Int32) (t0 : tyOK Γ (0, 1) x0) {K : (Int32 ⊕ Unit) → Prop} (kx0 : ∀ (x6 : Int32), K (.inl x6) → WP l G yX1_lapseHour cX1_lapseHour 7 (some .int) d 0 0 Q 0 0 102 [(6, .int x6)] [] Γ σ) (kx1 : K (.inr ()) → WP l G yX1_lapseHour cX1_lapseHour 7 (some .int) d 0 0 Q 0 0 111 [] [] Γ σ) : ∀ (N : Nat) (s : (Int32 × Int32 × Int32)) (b : (Int32 ⊕ Unit)), loopN (fX1_lapseHour_L26 Γ.2 σ x0 x2 x3) N s = some b → K b → WP l G yX1_lapseHour cX1_lapseHour 7 (some .int) d 0 0 Q 0 0 26 [(0, .ref (G.2.1 x0)), (2, .int x2), (3, .int x3), (4, .int s.1), (5, .int s.2.1), (6, .int s.2.2)] [] Γ σ := by
  refine r_loop (f := fX1_lapseHour_L26 Γ.2 σ x0 x2 x3) (hlv := fun s => [(0, .ref (G.2.1 x0)), (2, .int x2), (3, .int x3), (4, .int s.1), (5, .int s.2.1), (6, .int s.2.2)]) (hsg := fun s => σ) ?_
  rintro ⟨x4, x5, x6⟩ r h hb hx
  have hb : ∀ (x4 : Int32) (x5 : Int32) (x6 : Int32), r = .inl (x4, x5, x6) → WP l G yX1_lapseHour cX1_lapseHour 7 (some .int) d 0 0 Q 0 0 26 [(0, .ref (G.2.1 x0)), (2, .int x2), (3, .int x3), (4, .int x4), (5, .int x5), (6, .int x6)] [] Γ σ := fun x4 x5 x6 e => hb (x4, x5, x6) e
  have hx0 : ∀ (x6 : Int32), r = .inr (.inl x6) → WP l G yX1_lapseHour cX1_lapseHour 7 (some .int) d 0 0 Q 0 0 102 [(6, .int x6)] [] Γ σ := fun x6 e => kx0 x6 (hx _ e)
  have hx1 : r = .inr (.inr ()) → WP l G yX1_lapseHour cX1_lapseHour 7 (some .int) d 0 0 Q 0 0 111 [] [] Γ σ := fun e => kx1  (hx _ e)
  unfold fX1_lapseHour_L26 at h
  have h := un3_some h
  show WP l G yX1_lapseHour cX1_lapseHour 7 (some .int) d 0 0 Q 0 0 26 [(0, .ref (G.2.1 x0)), (2, .int x2), (3, .int x3), (4, .int x4), (5, .int x5), (6, .int x6)] [] Γ σ
  refine r_iload 5 dX1_lapseHour_26 rfl ?_
  refine r_iload_n 2 dX1_lapseHour_28 rfl ?_
  refine r_icmp_ge 111 dX1_lapseHour_29 (by decide) h (fun _ h => ?_) (fun _ h => ?_)
  · obtain rfl := Option.some.inj h
    refine r_pick [] rfl ?_
    exact hx1  rfl
  · refine r_iload 5 dX1_lapseHour_32 rfl ?_
    refine r_sipush (v := 600) dX1_lapseHour_34 (by decide) ?_
    refine r_icmp_ge 111 dX1_lapseHour_37 (by decide) h (fun _ h => ?_) (fun _ h => ?_)
    · obtain rfl := Option.some.inj h
      refine r_pick [] rfl ?_
      exact hx1  rfl
    · refine r_iload 3 dX1_lapseHour_40 rfl ?_
      refine r_if_le 64 dX1_lapseHour_42 (by decide) h (fun _ h => ?_) (fun _ h => ?_)
      · refine r_aload_n 0 dX1_lapseHour_64 rfl ?_
        refine r_iload 5 dX1_lapseHour_65 rfl ?_
        obtain ⟨v1, ev1, h⟩ := bd0_some h
        refine q_cVI [.int x6] dX1_lapseHour_67 cv_X1_91 (ci := 1) rfl rfl t0 rfl rfl (Nat.le_of_ble_eq_true rfl) (by omega) (kX1_isSomeoneWilling (d - 1) (by omega) x0 x6 t0 v1 ev1) ?_
        refine r_if_eq 93 dX1_lapseHour_70 (by decide) h (fun _ h => ?_) (fun _ h => ?_)
        · refine q_iinc (v := 1) 4 (fun v2 => [(5, .int v2), (0, .ref (G.2.1 x0)), (2, .int x2), (3, .int x3), (4, .int x4), (6, .int x6)]) dX1_lapseHour_93 rfl (by decide) (by decide) (fun _ => rfl) h (fun v2 h => ?_)
          refine r_iload 0 dX1_lapseHour_96 rfl ?_
          refine r_iload_n 2 dX1_lapseHour_98 rfl ?_
          refine r_icmp_lt 105 dX1_lapseHour_99 (by decide) h (fun _ h => ?_) (fun _ h => ?_)
          · refine r_pick [1, 2, 3, 4, 0, 5] rfl ?_
            exact tX1_lapseHour_b105 hdd σ x0 x2 x3 x4 v2 x6 t0 _ h hb hx0 hx1
          · obtain rfl := Option.some.inj h
            refine r_pick [5] rfl ?_
            exact hx0 _ rfl
        · refine r_aload_n 0 dX1_lapseHour_73 rfl ?_
          refine q_getR (e9 := (0, 4)) dX1_lapseHour_74 fd_X1_18 t0 rfl h (fun r3 tr3 h => ?_)
          refine q_getR (e9 := (1, 0)) dX1_lapseHour_77 fd_X1_68 tr3 rfl h (fun r4 tr4 h => ?_)
          refine r_aload_n 0 dX1_lapseHour_80 rfl ?_
          refine r_getI dX1_lapseHour_81 fd_X1_26 t0 ?_
          refine q_iald dX1_lapseHour_84 tr4 h (fun v5 h => ?_)
          refine r_istore (lv' := [(4, .int v5), (0, .ref (G.2.1 x0)), (2, .int x2), (3, .int x3), (5, .int x5), (6, .int x6)]) dX1_lapseHour_85 (by decide) rfl ?_
          refine r_iconst (v := 0) dX1_lapseHour_87 (by decide) ?_
          refine r_istore (lv' := [(5, .int (0 : Int32)), (4, .int v5), (0, .ref (G.2.1 x0)), (2, .int x2), (3, .int x3), (6, .int x6)]) dX1_lapseHour_88 (by decide) rfl ?_
          refine r_goto 105 dX1_lapseHour_90 (by decide) ?_
          refine r_pick [2, 3, 4, 1, 0, 5] rfl ?_
          exact tX1_lapseHour_b105 hdd σ x0 x2 x3 v5 (0 : Int32) x6 t0 _ h hb hx0 hx1
      · refine r_iconst (v := 0) dX1_lapseHour_45 (by decide) ?_
        refine r_iload 3 dX1_lapseHour_46 rfl ?_
        refine r_aload_n 0 dX1_lapseHour_48 rfl ?_
        refine q_getR (e9 := (1, 0)) dX1_lapseHour_49 fd_X1_9 t0 rfl h (fun r6 tr6 h => ?_)
        refine r_iload 5 dX1_lapseHour_52 rfl ?_
        refine q_iald dX1_lapseHour_54 tr6 h (fun v7 h => ?_)
        refine r_isub dX1_lapseHour_55 ?_
        refine r_max dX1_lapseHour_56 mx_X1_86 (Nat.le_of_ble_eq_true rfl) (by omega) (Nat.le_refl _) (Nat.le_refl _) ?_
        refine q_nmI h (fun v8 h => ?_)
        refine r_istore (lv' := [(4, .int v8), (0, .ref (G.2.1 x0)), (2, .int x2), (3, .int x3), (5, .int x5), (6, .int x6)]) dX1_lapseHour_59 (by decide) rfl ?_
        refine r_goto 105 dX1_lapseHour_61 (by decide) ?_
        refine r_pick [1, 2, 3, 0, 4, 5] rfl ?_
        exact tX1_lapseHour_b105 hdd σ x0 x2 x3 v8 x5 x6 t0 _ h hb hx0 hx1
theorem tX1_lapseHour_b111 {l : Launch} {G : gg} {Γ : ly} {d : Nat} {Q : Option Value → ly → mm → Prop} (hdd : 2 ≤ d) (σ : mm)     (r : Int32) (h : fX1_lapseHour_b111 Γ.2 σ  = some r) (hQ : Q (some (.int r)) Γ σ) : WP l G yX1_lapseHour cX1_lapseHour 7 (some .int) d 0 0 Q 0 0 111 [] [] Γ σ := by
  unfold fX1_lapseHour_b111 at h
  refine r_iconst (v := -1) dX1_lapseHour_111 (by decide) ?_
  obtain rfl := Option.some.inj h
  exact r_ireturn dX1_lapseHour_112 rfl hQ (Nat.le_refl _) (Nat.le_refl _)
theorem kX1_lapseHour {l : Launch} {G : gg} {Γ : ly} {σ : mm} (d : Nat) (hdd : 2 ≤ d) (x0 : Nat) (x1 : Int32) (x2 : Int32) (x3 : Int32) (t0 : tyOK Γ (0, 1) x0) (r : Int32) (h : fX1_lapseHour Γ.2 σ x0 x1 x2 x3 = some r) : CT l G yX1_lapseHour cX1_lapseHour 7 (some .int) d 0 0 [.ref (G.2.1 x0), .int x1, .int x2, .int x3] Γ σ (PP (some (.int r)) Γ σ) := by
  refine CT.ofWP (by decide) (Nat.le_of_ble_eq_true rfl) ?_
  have hQ : PP (some (.int r)) Γ σ (some (.int r)) Γ σ := PP.self
  generalize PP (some (.int r)) Γ σ = Q at hQ ⊢
  show WP l G yX1_lapseHour cX1_lapseHour 7 (some .int) d 0 0 Q 0 0 0 [(0, .ref (G.2.1 x0)), (1, .int x1), (2, .int x2), (3, .int x3)] [] Γ σ
  unfold fX1_lapseHour at h
  refine r_iload_n 1 dX1_lapseHour_0 rfl ?_
  refine r_istore (lv' := [(4, .int x1), (0, .ref (G.2.1 x0)), (1, .int x1), (2, .int x2), (3, .int x3)]) dX1_lapseHour_1 (by decide) rfl ?_
  refine r_aload_n 1 dX1_lapseHour_3 rfl ?_
  refine q_getR (e9 := (0, 3)) dX1_lapseHour_4 fd_X1_22 t0 rfl h (fun r1 tr1 h => ?_)
  refine q_getR (e9 := (1, 0)) dX1_lapseHour_7 fd_X1_74 tr1 rfl h (fun r2 tr2 h => ?_)
  refine r_aload_n 1 dX1_lapseHour_10 rfl ?_
  refine r_getI dX1_lapseHour_11 fd_X1_26 t0 ?_
  refine q_iald dX1_lapseHour_14 tr2 h (fun v3 h => ?_)
  refine r_istore (lv' := [(5, .int v3), (4, .int x1), (0, .ref (G.2.1 x0)), (1, .int x1), (2, .int x2), (3, .int x3)]) dX1_lapseHour_15 (by decide) rfl ?_
  refine r_aload_n 2 dX1_lapseHour_17 rfl ?_
  refine q_getR (e9 := (0, 3)) dX1_lapseHour_18 fd_X1_22 t0 rfl h (fun r4 tr4 h => ?_)
  refine r_getI dX1_lapseHour_21 fd_X1_43 tr4 ?_
  refine q_nmI h (fun v5 h => ?_)
  refine r_istore (lv' := [(6, .int v5), (5, .int v3), (4, .int x1), (0, .ref (G.2.1 x0)), (1, .int x1), (2, .int x2), (3, .int x3)]) dX1_lapseHour_24 (by decide) rfl ?_
  obtain ⟨b6, eb6, h⟩ := bd0_some h
  refine r_pick [3, 5, 6, 2, 1, 0] rfl ?_
  refine sX1_lapseHour_L26 hdd σ x0 x2 x3 t0 (K := fun b => b = b6) ?_ ?_ 1000 (x1, v3, v5) b6 eb6 rfl
  · rintro v7 rfl
    have h := cs2_0 h
    refine r_iload 0 dX1_lapseHour_102 rfl ?_
    obtain rfl := Option.some.inj h
    exact r_ireturn dX1_lapseHour_104 rfl hQ (Nat.le_refl _) (Nat.le_refl _)
  · rintro rfl
    have h := cs2_1 h
    exact tX1_lapseHour_b111 hdd σ  _ h hQ
theorem tX1_weighGrains_b81 {l : Launch} {G : gg} {Γ : ly} {d : Nat} {Q : Option Value → ly → mm → Prop} (hdd : 2 ≤ d) (σ : mm) (x0 : Nat) (x2 : Int32) (x3 : Int32)  (t0 : tyOK Γ (0, 1) x0)  (r : ((Int32 × Int32 × mm) ⊕ mm)) (h : fX1_weighGrains_b81 Γ.2 σ x0 x2 x3 = some r) (hb : ∀ (x1 : Int32) (x2 : Int32) (σ9 : mm), r = .inl (x1, x2, σ9) → WP l G yX1_weighGrains cX1_weighGrains 4 (none) d 0 0 Q 0 0 20 [(0, .ref (G.2.1 x0)), (1, .int x1), (2, .int x2)] [] Γ σ9) (hx0 : ∀ (σ9 : mm), r = .inr σ9 → WP l G yX1_weighGrains cX1_weighGrains 4 (none) d 0 0 Q 0 0 89 [] [] Γ σ9) : WP l G yX1_weighGrains cX1_weighGrains 4 (none) d 0 0 Q 0 0 81 [(0, .ref (G.2.1 x0)), (2, .int x2), (3, .int x3)] [] Γ σ := by
  unfold fX1_weighGrains_b81 at h
  refine r_iload_n 2 dX1_weighGrains_81 rfl ?_
  refine r_istore_n (lv' := [(1, .int x3), (0, .ref (G.2.1 x0)), (2, .int x2), (3, .int x3)]) dX1_weighGrains_82 (by decide) rfl ?_
  refine q_iinc (v := 1) 2 (fun v1 => [(2, .int v1), (1, .int x3), (0, .ref (G.2.1 x0)), (3, .int x3)]) dX1_weighGrains_83 rfl (by decide) (by decide) (fun _ => rfl) h (fun v1 h => ?_)
  refine r_goto 20 dX1_weighGrains_86 (by decide) ?_
  obtain rfl := Option.some.inj h
  refine r_pick [2, 1, 0] rfl ?_
  exact hb _ _ _ rfl
theorem sX1_weighGrains_L20 {l : Launch} {G : gg} {Γ : ly} {d : Nat} {Q : Option Value → ly → mm → Prop} (hdd : 2 ≤ d) (x0 : Nat) (t0 : tyOK Γ (0, 1) x0) {K : mm → Prop} (kx0 : ∀ (σ9 : mm), K σ9 → WP l G yX1_weighGrains cX1_weighGrains 4 (none) d 0 0 Q 0 0 89 [] [] Γ σ9) : ∀ (N : Nat) (s : (Int32 × Int32 × mm)) (b : mm), loopN (fX1_weighGrains_L20 Γ.2 x0) N s = some b → K b → WP l G yX1_weighGrains cX1_weighGrains 4 (none) d 0 0 Q 0 0 20 [(0, .ref (G.2.1 x0)), (1, .int s.1), (2, .int s.2.1)] [] Γ s.2.2 := by
  refine r_loop (f := fX1_weighGrains_L20 Γ.2 x0) (hlv := fun s => [(0, .ref (G.2.1 x0)), (1, .int s.1), (2, .int s.2.1)]) (hsg := fun s => s.2.2) ?_
  rintro ⟨x1, x2, σ⟩ r h hb hx
  have hb : ∀ (x1 : Int32) (x2 : Int32) (σ : mm), r = .inl (x1, x2, σ) → WP l G yX1_weighGrains cX1_weighGrains 4 (none) d 0 0 Q 0 0 20 [(0, .ref (G.2.1 x0)), (1, .int x1), (2, .int x2)] [] Γ σ := fun x1 x2 σ e => hb (x1, x2, σ) e
  have hx0 : ∀ (σ9 : mm), r = .inr σ9 → WP l G yX1_weighGrains cX1_weighGrains 4 (none) d 0 0 Q 0 0 89 [] [] Γ σ9 := fun σ9 e => kx0 σ9 (hx _ e)
  unfold fX1_weighGrains_L20 at h
  have h := un3_some h
  show WP l G yX1_weighGrains cX1_weighGrains 4 (none) d 0 0 Q 0 0 20 [(0, .ref (G.2.1 x0)), (1, .int x1), (2, .int x2)] [] Γ σ
  refine r_iload_n 2 dX1_weighGrains_20 rfl ?_
  refine r_sipush (v := 599) dX1_weighGrains_21 (by decide) ?_
  refine r_icmp_ge 89 dX1_weighGrains_24 (by decide) h (fun _ h => ?_) (fun _ h => ?_)
  · obtain rfl := Option.some.inj h
    refine r_pick [] rfl ?_
    exact hx0 _ rfl
  · refine r_iload_n 1 dX1_weighGrains_27 rfl ?_
    refine r_sipush (v := 250) dX1_weighGrains_28 (by decide) ?_
    refine r_icmp_ge 89 dX1_weighGrains_31 (by decide) h (fun _ h => ?_) (fun _ h => ?_)
    · obtain rfl := Option.some.inj h
      refine r_pick [] rfl ?_
      exact hx0 _ rfl
    · refine r_sipush (v := 250) dX1_weighGrains_34 (by decide) ?_
      refine r_iload_n 1 dX1_weighGrains_37 rfl ?_
      refine r_aload_n 0 dX1_weighGrains_38 rfl ?_
      refine q_getR (e9 := (1, 0)) dX1_weighGrains_39 fd_X1_9 t0 rfl h (fun r1 tr1 h => ?_)
      refine r_iload_n 2 dX1_weighGrains_42 rfl ?_
      refine q_iald dX1_weighGrains_43 tr1 h (fun v2 h => ?_)
      refine r_iadd dX1_weighGrains_44 ?_
      refine r_min dX1_weighGrains_45 mx_X1_100 (Nat.le_of_ble_eq_true rfl) (by omega) (Nat.le_refl _) (Nat.le_refl _) ?_
      refine q_nmI h (fun v3 h => ?_)
      refine r_istore_n (lv' := [(3, .int v3), (0, .ref (G.2.1 x0)), (1, .int x1), (2, .int x2)]) dX1_weighGrains_48 (by decide) rfl ?_
      refine r_iload_n 0 dX1_weighGrains_49 rfl ?_
      refine r_iload_n 2 dX1_weighGrains_50 rfl ?_
      refine r_icmp_le 81 dX1_weighGrains_51 (by decide) h (fun _ h => ?_) (fun _ h => ?_)
      · refine r_pick [1, 3, 0] rfl ?_
        exact tX1_weighGrains_b81 hdd σ x0 x2 v3 t0 _ h hb hx0
      · refine r_aload_n 1 dX1_weighGrains_54 rfl ?_
        refine r_iload_n 3 dX1_weighGrains_55 rfl ?_
        refine r_iconst (v := 1) dX1_weighGrains_56 (by decide) ?_
        refine r_iadd dX1_weighGrains_57 ?_
        obtain ⟨v4, ev4, h⟩ := bd0_some h
        refine q_cVI [.int (x2 + (1 : Int32))] dX1_weighGrains_58 cv_X1_103 (ci := 1) rfl rfl t0 rfl rfl (Nat.le_of_ble_eq_true rfl) (by omega) (kX1_areBothWilling (d - 1) (by omega) x0 (x2 + (1 : Int32)) t0 v4 ev4) ?_
        refine r_if_eq 81 dX1_weighGrains_61 (by decide) h (fun _ h => ?_) (fun _ h => ?_)
        · refine r_pick [1, 3, 0] rfl ?_
          exact tX1_weighGrains_b81 hdd σ x0 x2 v3 t0 _ h hb hx0
        · refine r_aload_n 1 dX1_weighGrains_64 rfl ?_
          refine r_iload_n 0 dX1_weighGrains_65 rfl ?_
          refine q_putI dX1_weighGrains_66 fd_X1_94 t0 h (fun τ5 h => ?_)
          refine r_aload_n 1 dX1_weighGrains_69 rfl ?_
          refine r_dup dX1_weighGrains_70 rfl ?_
          refine r_getI dX1_weighGrains_71 fd_X1_97 t0 ?_
          refine r_iload_n 0 dX1_weighGrains_74 rfl ?_
          refine r_iload_n 2 dX1_weighGrains_75 rfl ?_
          refine r_isub dX1_weighGrains_76 ?_
          refine r_iadd dX1_weighGrains_77 ?_
          refine q_putI dX1_weighGrains_78 fd_X1_97 t0 h (fun τ6 h => ?_)
          refine r_pick [1, 3, 0] rfl ?_
          exact tX1_weighGrains_b81 hdd τ6 x0 x2 v3 t0 _ h hb hx0
theorem tX1_weighGrains_b89 {l : Launch} {G : gg} {Γ : ly} {d : Nat} {Q : Option Value → ly → mm → Prop} (hdd : 2 ≤ d) (σ : mm)     (r : mm) (h : fX1_weighGrains_b89 Γ.2 σ  = some r) (hQ : Q none Γ r) : WP l G yX1_weighGrains cX1_weighGrains 4 (none) d 0 0 Q 0 0 89 [] [] Γ σ := by
  unfold fX1_weighGrains_b89 at h
  obtain rfl := Option.some.inj h
  exact r_return dX1_weighGrains_89 rfl hQ (Nat.le_refl _) (Nat.le_refl _)
theorem kX1_weighGrains {l : Launch} {G : gg} {Γ : ly} {σ : mm} (d : Nat) (hdd : 2 ≤ d) (x0 : Nat) (t0 : tyOK Γ (0, 1) x0) (r : mm) (h : fX1_weighGrains Γ.2 σ x0 = some r) : CT l G yX1_weighGrains cX1_weighGrains 4 (none) d 0 0 [.ref (G.2.1 x0)] Γ σ (PP none Γ r) := by
  refine CT.ofWP (by decide) (Nat.le_of_ble_eq_true rfl) ?_
  have hQ : PP none Γ r none Γ r := PP.self
  generalize PP none Γ r = Q at hQ ⊢
  show WP l G yX1_weighGrains cX1_weighGrains 4 (none) d 0 0 Q 0 0 0 [(0, .ref (G.2.1 x0))] [] Γ σ
  unfold fX1_weighGrains at h
  refine r_aload_n 0 dX1_weighGrains_0 rfl ?_
  refine r_iconst (v := -1) dX1_weighGrains_1 (by decide) ?_
  refine q_putI dX1_weighGrains_2 fd_X1_94 t0 h (fun τ1 h => ?_)
  refine r_aload_n 0 dX1_weighGrains_5 rfl ?_
  refine r_iconst (v := 0) dX1_weighGrains_6 (by decide) ?_
  refine q_putI dX1_weighGrains_7 fd_X1_97 t0 h (fun τ2 h => ?_)
  refine r_iconst (v := 0) dX1_weighGrains_10 (by decide) ?_
  refine r_istore_n (lv' := [(1, .int (0 : Int32)), (0, .ref (G.2.1 x0))]) dX1_weighGrains_11 (by decide) rfl ?_
  refine r_aload_n 1 dX1_weighGrains_12 rfl ?_
  refine q_getR (e9 := (0, 3)) dX1_weighGrains_13 fd_X1_22 t0 rfl h (fun r3 tr3 h => ?_)
  refine r_getI dX1_weighGrains_16 fd_X1_43 tr3 ?_
  refine q_nmI h (fun v4 h => ?_)
  refine r_istore_n (lv' := [(2, .int v4), (1, .int (0 : Int32)), (0, .ref (G.2.1 x0))]) dX1_weighGrains_19 (by decide) rfl ?_
  obtain ⟨b5, eb5, h⟩ := bd0_some h
  refine r_pick [2, 1, 0] rfl ?_
  refine sX1_weighGrains_L20 hdd x0 t0 (K := fun b => b = b5) ?_ 1000 ((0 : Int32), v4, τ2) b5 eb5 rfl
  rintro τ6 rfl
  exact tX1_weighGrains_b89 hdd τ6  _ h hQ
theorem tX1_findLastTurner_b90 {l : Launch} {G : gg} {Γ : ly} {d : Nat} {Q : Option Value → ly → mm → Prop} (hdd : 3 ≤ d) (σ : mm) (x0 : Nat) (x1 : Int32) (x2 : Int32)  (t0 : tyOK Γ (0, 1) x0)  (r : ((Int32 × mm) ⊕ mm)) (h : fX1_findLastTurner_b90 Γ.2 σ x0 x1 x2 = some r) (hb : ∀ (x2 : Int32) (σ9 : mm), r = .inl (x2, σ9) → WP l G yX1_findLastTurner cX1_findLastTurner 3 (none) d 0 0 Q 0 0 17 [(0, .ref (G.2.1 x0)), (1, .int x1), (2, .int x2)] [] Γ σ9) (hx0 : ∀ (σ9 : mm), r = .inr σ9 → WP l G yX1_findLastTurner cX1_findLastTurner 3 (none) d 0 0 Q 0 0 96 [] [] Γ σ9) : WP l G yX1_findLastTurner cX1_findLastTurner 3 (none) d 0 0 Q 0 0 90 [(0, .ref (G.2.1 x0)), (1, .int x1), (2, .int x2)] [] Γ σ := by
  unfold fX1_findLastTurner_b90 at h
  refine q_iinc (v := 1) 2 (fun v1 => [(2, .int v1), (0, .ref (G.2.1 x0)), (1, .int x1)]) dX1_findLastTurner_90 rfl (by decide) (by decide) (fun _ => rfl) h (fun v1 h => ?_)
  refine r_goto 17 dX1_findLastTurner_93 (by decide) ?_
  obtain rfl := Option.some.inj h
  refine r_pick [1, 2, 0] rfl ?_
  exact hb _ _ rfl
theorem tX1_findLastTurner_b87 {l : Launch} {G : gg} {Γ : ly} {d : Nat} {Q : Option Value → ly → mm → Prop} (hdd : 3 ≤ d) (σ : mm) (x0 : Nat) (x1 : Int32) (x2 : Int32) (s0 : Nat) (s1 : Int32) (t0 : tyOK Γ (0, 1) x0) (u0 : tyOK Γ (0, 1) s0) (r : ((Int32 × mm) ⊕ mm)) (h : fX1_findLastTurner_b87 Γ.2 σ x0 x1 x2 s0 s1 = some r) (hb : ∀ (x2 : Int32) (σ9 : mm), r = .inl (x2, σ9) → WP l G yX1_findLastTurner cX1_findLastTurner 3 (none) d 0 0 Q 0 0 17 [(0, .ref (G.2.1 x0)), (1, .int x1), (2, .int x2)] [] Γ σ9) (hx0 : ∀ (σ9 : mm), r = .inr σ9 → WP l G yX1_findLastTurner cX1_findLastTurner 3 (none) d 0 0 Q 0 0 96 [] [] Γ σ9) : WP l G yX1_findLastTurner cX1_findLastTurner 3 (none) d 0 0 Q 0 0 87 [(0, .ref (G.2.1 x0)), (1, .int x1), (2, .int x2)] [.int s1, .ref (G.2.1 s0)] Γ σ := by
  unfold fX1_findLastTurner_b87 at h
  refine q_putI dX1_findLastTurner_87 fd_X1_106 u0 h (fun τ1 h => ?_)
  exact tX1_findLastTurner_b90 hdd τ1 x0 x1 x2 t0 _ h hb hx0
theorem sX1_findLastTurner_L17 {l : Launch} {G : gg} {Γ : ly} {d : Nat} {Q : Option Value → ly → mm → Prop} (hdd : 3 ≤ d) (x0 : Nat) (x1 : Int32) (t0 : tyOK Γ (0, 1) x0) {K : mm → Prop} (kx0 : ∀ (σ9 : mm), K σ9 → WP l G yX1_findLastTurner cX1_findLastTurner 3 (none) d 0 0 Q 0 0 96 [] [] Γ σ9) : ∀ (N : Nat) (s : (Int32 × mm)) (b : mm), loopN (fX1_findLastTurner_L17 Γ.2 x0 x1) N s = some b → K b → WP l G yX1_findLastTurner cX1_findLastTurner 3 (none) d 0 0 Q 0 0 17 [(0, .ref (G.2.1 x0)), (1, .int x1), (2, .int s.1)] [] Γ s.2 := by
  refine r_loop (f := fX1_findLastTurner_L17 Γ.2 x0 x1) (hlv := fun s => [(0, .ref (G.2.1 x0)), (1, .int x1), (2, .int s.1)]) (hsg := fun s => s.2) ?_
  rintro ⟨x2, σ⟩ r h hb hx
  have hb : ∀ (x2 : Int32) (σ : mm), r = .inl (x2, σ) → WP l G yX1_findLastTurner cX1_findLastTurner 3 (none) d 0 0 Q 0 0 17 [(0, .ref (G.2.1 x0)), (1, .int x1), (2, .int x2)] [] Γ σ := fun x2 σ e => hb (x2, σ) e
  have hx0 : ∀ (σ9 : mm), r = .inr σ9 → WP l G yX1_findLastTurner cX1_findLastTurner 3 (none) d 0 0 Q 0 0 96 [] [] Γ σ9 := fun σ9 e => kx0 σ9 (hx _ e)
  unfold fX1_findLastTurner_L17 at h
  have h := un2_some h
  show WP l G yX1_findLastTurner cX1_findLastTurner 3 (none) d 0 0 Q 0 0 17 [(0, .ref (G.2.1 x0)), (1, .int x1), (2, .int x2)] [] Γ σ
  refine r_iload_n 2 dX1_findLastTurner_17 rfl ?_
  refine r_iload_n 1 dX1_findLastTurner_18 rfl ?_
  refine r_aload_n 0 dX1_findLastTurner_19 rfl ?_
  refine q_getR (e9 := (0, 4)) dX1_findLastTurner_20 fd_X1_18 t0 rfl h (fun r1 tr1 h => ?_)
  refine r_getI dX1_findLastTurner_23 fd_X1_71 tr1 ?_
  refine r_iadd dX1_findLastTurner_26 ?_
  refine r_icmp_ge 96 dX1_findLastTurner_27 (by decide) h (fun _ h => ?_) (fun _ h => ?_)
  · obtain rfl := Option.some.inj h
    refine r_pick [] rfl ?_
    exact hx0 _ rfl
  · refine r_iload_n 2 dX1_findLastTurner_30 rfl ?_
    refine r_sipush (v := 600) dX1_findLastTurner_31 (by decide) ?_
    refine r_icmp_ge 96 dX1_findLastTurner_34 (by decide) h (fun _ h => ?_) (fun _ h => ?_)
    · obtain rfl := Option.some.inj h
      refine r_pick [] rfl ?_
      exact hx0 _ rfl
    · refine r_aload_n 0 dX1_findLastTurner_37 rfl ?_
      refine r_iload_n 2 dX1_findLastTurner_38 rfl ?_
      obtain ⟨v2, ev2, h⟩ := bd0_some h
      refine q_cVI [.int x2] dX1_findLastTurner_39 cv_X1_91 (ci := 1) rfl rfl t0 rfl rfl (Nat.le_of_ble_eq_true rfl) (by omega) (kX1_isSomeoneWilling (d - 1) (by omega) x0 x2 t0 v2 ev2) ?_
      refine r_if_eq 90 dX1_findLastTurner_42 (by decide) h (fun _ h => ?_) (fun _ h => ?_)
      · exact tX1_findLastTurner_b90 hdd σ x0 x1 x2 t0 _ h hb hx0
      · refine r_aload_n 0 dX1_findLastTurner_45 rfl ?_
        refine r_iload_n 2 dX1_findLastTurner_46 rfl ?_
        refine q_putI dX1_findLastTurner_47 fd_X1_109 t0 h (fun τ3 h => ?_)
        refine r_aload_n 0 dX1_findLastTurner_50 rfl ?_
        refine r_aload_n 0 dX1_findLastTurner_51 rfl ?_
        refine r_iload_n 2 dX1_findLastTurner_52 rfl ?_
        refine r_iconst (v := 2) dX1_findLastTurner_53 (by decide) ?_
        obtain ⟨v4, ev4, h⟩ := bd0_some h
        refine q_cVI [.int x2, .int (2 : Int32)] dX1_findLastTurner_54 cv_X1_77 (ci := 1) rfl rfl t0 rfl rfl (Nat.le_of_ble_eq_true rfl) (by omega) (kX1_has (d - 1) (by omega) x0 x2 (2 : Int32) t0 v4 ev4) ?_
        refine r_if_eq 75 dX1_findLastTurner_57 (by decide) h (fun _ h => ?_) (fun _ h => ?_)
        · refine r_aload_n 0 dX1_findLastTurner_75 rfl ?_
          refine q_getR (e9 := (0, 4)) dX1_findLastTurner_76 fd_X1_18 t0 rfl h (fun r5 tr5 h => ?_)
          refine q_getR (e9 := (1, 0)) dX1_findLastTurner_79 fd_X1_30 tr5 rfl h (fun r6 tr6 h => ?_)
          refine r_aload_n 0 dX1_findLastTurner_82 rfl ?_
          refine r_getI dX1_findLastTurner_83 fd_X1_26 t0 ?_
          refine q_iald dX1_findLastTurner_86 tr6 h (fun v7 h => ?_)
          exact tX1_findLastTurner_b87 hdd τ3 x0 x1 x2 x0 v7 t0 t0 _ h hb hx0
        · refine r_aload_n 0 dX1_findLastTurner_60 rfl ?_
          refine q_getR (e9 := (0, 4)) dX1_findLastTurner_61 fd_X1_18 t0 rfl h (fun r8 tr8 h => ?_)
          refine q_getR (e9 := (1, 0)) dX1_findLastTurner_64 fd_X1_35 tr8 rfl h (fun r9 tr9 h => ?_)
          refine r_aload_n 0 dX1_findLastTurner_67 rfl ?_
          refine r_getI dX1_findLastTurner_68 fd_X1_26 t0 ?_
          refine q_iald dX1_findLastTurner_71 tr9 h (fun v10 h => ?_)
          refine r_goto 87 dX1_findLastTurner_72 (by decide) ?_
          exact tX1_findLastTurner_b87 hdd τ3 x0 x1 x2 x0 v10 t0 t0 _ h hb hx0
theorem tX1_findLastTurner_b96 {l : Launch} {G : gg} {Γ : ly} {d : Nat} {Q : Option Value → ly → mm → Prop} (hdd : 3 ≤ d) (σ : mm)     (r : mm) (h : fX1_findLastTurner_b96 Γ.2 σ  = some r) (hQ : Q none Γ r) : WP l G yX1_findLastTurner cX1_findLastTurner 3 (none) d 0 0 Q 0 0 96 [] [] Γ σ := by
  unfold fX1_findLastTurner_b96 at h
  obtain rfl := Option.some.inj h
  exact r_return dX1_findLastTurner_96 rfl hQ (Nat.le_refl _) (Nat.le_refl _)
theorem kX1_findLastTurner {l : Launch} {G : gg} {Γ : ly} {σ : mm} (d : Nat) (hdd : 3 ≤ d) (x0 : Nat) (t0 : tyOK Γ (0, 1) x0) (r : mm) (h : fX1_findLastTurner Γ.2 σ x0 = some r) : CT l G yX1_findLastTurner cX1_findLastTurner 3 (none) d 0 0 [.ref (G.2.1 x0)] Γ σ (PP none Γ r) := by
  refine CT.ofWP (by decide) (Nat.le_of_ble_eq_true rfl) ?_
  have hQ : PP none Γ r none Γ r := PP.self
  generalize PP none Γ r = Q at hQ ⊢
  show WP l G yX1_findLastTurner cX1_findLastTurner 3 (none) d 0 0 Q 0 0 0 [(0, .ref (G.2.1 x0))] [] Γ σ
  unfold fX1_findLastTurner at h
  refine r_aload_n 0 dX1_findLastTurner_0 rfl ?_
  refine r_iconst (v := -1) dX1_findLastTurner_1 (by decide) ?_
  refine q_putI dX1_findLastTurner_2 fd_X1_106 t0 h (fun τ1 h => ?_)
  refine r_aload_n 0 dX1_findLastTurner_5 rfl ?_
  refine r_iconst (v := -1) dX1_findLastTurner_6 (by decide) ?_
  refine q_putI dX1_findLastTurner_7 fd_X1_109 t0 h (fun τ2 h => ?_)
  refine r_aload_n 0 dX1_findLastTurner_10 rfl ?_
  obtain ⟨v3, ev3, h⟩ := bd0_some h
  refine q_cVI [] dX1_findLastTurner_11 cv_X1_112 (ci := 1) rfl rfl t0 rfl rfl (Nat.le_of_ble_eq_true rfl) (by omega) (kX1_endNow (d - 1) (by omega) x0 t0 v3 ev3) ?_
  refine r_istore_n (lv' := [(1, .int v3), (0, .ref (G.2.1 x0))]) dX1_findLastTurner_14 (by decide) rfl ?_
  refine r_iload_n 0 dX1_findLastTurner_15 rfl ?_
  refine r_istore_n (lv' := [(2, .int v3), (1, .int v3), (0, .ref (G.2.1 x0))]) dX1_findLastTurner_16 (by decide) rfl ?_
  obtain ⟨b4, eb4, h⟩ := bd0_some h
  refine r_pick [2, 1, 0] rfl ?_
  refine sX1_findLastTurner_L17 hdd x0 v3 t0 (K := fun b => b = b4) ?_ 1000 (v3, τ2) b4 eb4 rfl
  rintro τ5 rfl
  exact tX1_findLastTurner_b96 hdd τ5  _ h hQ
theorem kX2_copyFrom {l : Launch} {G : gg} {Γ : ly} {σ : mm} (d : Nat) (hdd : 1 ≤ d) (x0 : Nat) (x1 : Nat) (t0 : tyOK Γ (0, 2) x0) (t1 : tyOK Γ (0, 2) x1) (r : mm) (h : fX2_copyFrom Γ.2 σ x0 x1 = some r) : CT l G yX2_copyFrom cX2_copyFrom 2 (none) d 0 0 [.ref (G.2.1 x0), .ref (G.2.1 x1)] Γ σ (PP none Γ r) := by
  refine CT.ofWP (by decide) (Nat.le_of_ble_eq_true rfl) ?_
  have hQ : PP none Γ r none Γ r := PP.self
  generalize PP none Γ r = Q at hQ ⊢
  show WP l G yX2_copyFrom cX2_copyFrom 2 (none) d 0 0 Q 0 0 0 [(0, .ref (G.2.1 x0)), (1, .ref (G.2.1 x1))] [] Γ σ
  unfold fX2_copyFrom at h
  refine r_aload_n 1 dX2_copyFrom_0 rfl ?_
  refine q_getR (e9 := (4, 0)) dX2_copyFrom_1 fd_X2_9 t1 rfl h (fun r1 tr1 h => ?_)
  refine r_iconst (v := 0) dX2_copyFrom_4 (by decide) ?_
  refine r_aload_n 0 dX2_copyFrom_5 rfl ?_
  refine q_getR (e9 := (4, 0)) dX2_copyFrom_6 fd_X2_9 t0 rfl h (fun r2 tr2 h => ?_)
  refine r_iconst (v := 0) dX2_copyFrom_9 (by decide) ?_
  refine r_bipush (v := 6) dX2_copyFrom_10 (by decide) ?_
  refine q_copyL dX2_copyFrom_12 cp_X2_25 tr1 tr2 (Nat.le_of_ble_eq_true rfl) (by omega) h (fun τ3 h => ?_)
  refine r_aload_n 1 dX2_copyFrom_15 rfl ?_
  refine q_getR (e9 := (1, 0)) dX2_copyFrom_16 fd_X2_15 t1 rfl h (fun r4 tr4 h => ?_)
  refine r_iconst (v := 0) dX2_copyFrom_19 (by decide) ?_
  refine r_aload_n 0 dX2_copyFrom_20 rfl ?_
  refine q_getR (e9 := (1, 0)) dX2_copyFrom_21 fd_X2_15 t0 rfl h (fun r5 tr5 h => ?_)
  refine r_iconst (v := 0) dX2_copyFrom_24 (by decide) ?_
  refine r_bipush (v := 6) dX2_copyFrom_25 (by decide) ?_
  refine q_copyI dX2_copyFrom_27 cp_X2_25 tr4 tr5 (Nat.le_of_ble_eq_true rfl) (by omega) h (fun τ6 h => ?_)
  refine r_aload_n 1 dX2_copyFrom_30 rfl ?_
  refine q_getR (e9 := (1, 0)) dX2_copyFrom_31 fd_X2_19 t1 rfl h (fun r7 tr7 h => ?_)
  refine r_iconst (v := 0) dX2_copyFrom_34 (by decide) ?_
  refine r_aload_n 0 dX2_copyFrom_35 rfl ?_
  refine q_getR (e9 := (1, 0)) dX2_copyFrom_36 fd_X2_19 t0 rfl h (fun r8 tr8 h => ?_)
  refine r_iconst (v := 0) dX2_copyFrom_39 (by decide) ?_
  refine r_bipush (v := 6) dX2_copyFrom_40 (by decide) ?_
  refine q_copyI dX2_copyFrom_42 cp_X2_25 tr7 tr8 (Nat.le_of_ble_eq_true rfl) (by omega) h (fun τ9 h => ?_)
  refine r_aload_n 1 dX2_copyFrom_45 rfl ?_
  refine q_getR (e9 := (1, 0)) dX2_copyFrom_46 fd_X2_22 t1 rfl h (fun r10 tr10 h => ?_)
  refine r_iconst (v := 0) dX2_copyFrom_49 (by decide) ?_
  refine r_aload_n 0 dX2_copyFrom_50 rfl ?_
  refine q_getR (e9 := (1, 0)) dX2_copyFrom_51 fd_X2_22 t0 rfl h (fun r11 tr11 h => ?_)
  refine r_iconst (v := 0) dX2_copyFrom_54 (by decide) ?_
  refine r_bipush (v := 6) dX2_copyFrom_55 (by decide) ?_
  refine q_copyI dX2_copyFrom_57 cp_X2_25 tr10 tr11 (Nat.le_of_ble_eq_true rfl) (by omega) h (fun τ12 h => ?_)
  refine r_aload_n 0 dX2_copyFrom_60 rfl ?_
  refine r_aload_n 1 dX2_copyFrom_61 rfl ?_
  refine r_getI dX2_copyFrom_62 fd_X2_31 t1 ?_
  refine q_putI dX2_copyFrom_65 fd_X2_31 t0 h (fun τ13 h => ?_)
  obtain rfl := Option.some.inj h
  exact r_return dX2_copyFrom_68 rfl hQ (Nat.le_refl _) (Nat.le_refl _)
theorem tX2_allOf_b28 {l : Launch} {G : gg} {Γ : ly} {d : Nat} {Q : Option Value → ly → mm → Prop} (hdd : 0 ≤ d) (σ : mm) (x0 : Nat) (x1 : Int32) (x2 : Int32) (x3 : Int32)  (t0 : tyOK Γ (0, 2) x0)  (r : ((Int32 × Int32) ⊕ Int32)) (h : fX2_allOf_b28 Γ.2 σ x0 x1 x2 x3 = some r) (hb : ∀ (x2 : Int32) (x3 : Int32), r = .inl (x2, x3) → WP l G yX2_allOf cX2_allOf 4 (some .int) d 0 0 Q 0 0 4 [(0, .ref (G.2.1 x0)), (1, .int x1), (2, .int x2), (3, .int x3)] [] Γ σ) (hx0 : ∀ (x2 : Int32), r = .inr x2 → WP l G yX2_allOf cX2_allOf 4 (some .int) d 0 0 Q 0 0 34 [(2, .int x2)] [] Γ σ) : WP l G yX2_allOf cX2_allOf 4 (some .int) d 0 0 Q 0 0 28 [(0, .ref (G.2.1 x0)), (1, .int x1), (2, .int x2), (3, .int x3)] [] Γ σ := by
  unfold fX2_allOf_b28 at h
  refine q_iinc (v := 1) 3 (fun v1 => [(3, .int v1), (0, .ref (G.2.1 x0)), (1, .int x1), (2, .int x2)]) dX2_allOf_28 rfl (by decide) (by decide) (fun _ => rfl) h (fun v1 h => ?_)
  refine r_goto 4 dX2_allOf_31 (by decide) ?_
  obtain rfl := Option.some.inj h
  refine r_pick [1, 2, 3, 0] rfl ?_
  exact hb _ _ rfl
theorem sX2_allOf_L4 {l : Launch} {G : gg} {Γ : ly} {d : Nat} {Q : Option Value → ly → mm → Prop} (hdd : 0 ≤ d) (σ : mm) (x0 : Nat) (x1 : Int32) (t0 : tyOK Γ (0, 2) x0) {K : Int32 → Prop} (kx0 : ∀ (x2 : Int32), K x2 → WP l G yX2_allOf cX2_allOf 4 (some .int) d 0 0 Q 0 0 34 [(2, .int x2)] [] Γ σ) : ∀ (N : Nat) (s : (Int32 × Int32)) (b : Int32), loopN (fX2_allOf_L4 Γ.2 σ x0 x1) N s = some b → K b → WP l G yX2_allOf cX2_allOf 4 (some .int) d 0 0 Q 0 0 4 [(0, .ref (G.2.1 x0)), (1, .int x1), (2, .int s.1), (3, .int s.2)] [] Γ σ := by
  refine r_loop (f := fX2_allOf_L4 Γ.2 σ x0 x1) (hlv := fun s => [(0, .ref (G.2.1 x0)), (1, .int x1), (2, .int s.1), (3, .int s.2)]) (hsg := fun s => σ) ?_
  rintro ⟨x2, x3⟩ r h hb hx
  have hb : ∀ (x2 : Int32) (x3 : Int32), r = .inl (x2, x3) → WP l G yX2_allOf cX2_allOf 4 (some .int) d 0 0 Q 0 0 4 [(0, .ref (G.2.1 x0)), (1, .int x1), (2, .int x2), (3, .int x3)] [] Γ σ := fun x2 x3 e => hb (x2, x3) e
  have hx0 : ∀ (x2 : Int32), r = .inr x2 → WP l G yX2_allOf cX2_allOf 4 (some .int) d 0 0 Q 0 0 34 [(2, .int x2)] [] Γ σ := fun x2 e => kx0 x2 (hx _ e)
  unfold fX2_allOf_L4 at h
  have h := un2_some h
  show WP l G yX2_allOf cX2_allOf 4 (some .int) d 0 0 Q 0 0 4 [(0, .ref (G.2.1 x0)), (1, .int x1), (2, .int x2), (3, .int x3)] [] Γ σ
  refine r_iload_n 3 dX2_allOf_4 rfl ?_
  refine r_aload_n 0 dX2_allOf_5 rfl ?_
  refine r_getI dX2_allOf_6 fd_X2_31 t0 ?_
  refine r_icmp_ge 34 dX2_allOf_9 (by decide) h (fun _ h => ?_) (fun _ h => ?_)
  · obtain rfl := Option.some.inj h
    refine r_pick [2] rfl ?_
    exact hx0 _ rfl
  · refine r_aload_n 0 dX2_allOf_12 rfl ?_
    refine q_getR (e9 := (1, 0)) dX2_allOf_13 fd_X2_15 t0 rfl h (fun r1 tr1 h => ?_)
    refine r_iload_n 3 dX2_allOf_16 rfl ?_
    refine q_iald dX2_allOf_17 tr1 h (fun v2 h => ?_)
    refine r_iload_n 1 dX2_allOf_18 rfl ?_
    refine r_icmp_ne 28 dX2_allOf_19 (by decide) h (fun _ h => ?_) (fun _ h => ?_)
    · exact tX2_allOf_b28 hdd σ x0 x1 x2 x3 t0 _ h hb hx0
    · refine r_iload_n 2 dX2_allOf_22 rfl ?_
      refine r_iconst (v := 1) dX2_allOf_23 (by decide) ?_
      refine r_iload_n 3 dX2_allOf_24 rfl ?_
      refine r_ishl dX2_allOf_25 ?_
      refine r_ior dX2_allOf_26 ?_
      refine q_nmI h (fun v3 h => ?_)
      refine r_istore_n (lv' := [(2, .int v3), (0, .ref (G.2.1 x0)), (1, .int x1), (3, .int x3)]) dX2_allOf_27 (by decide) rfl ?_
      refine r_pick [1, 2, 0, 3] rfl ?_
      exact tX2_allOf_b28 hdd σ x0 x1 v3 x3 t0 _ h hb hx0
theorem kX2_allOf {l : Launch} {G : gg} {Γ : ly} {σ : mm} (d : Nat) (hdd : 0 ≤ d) (x0 : Nat) (x1 : Int32) (t0 : tyOK Γ (0, 2) x0) (r : Int32) (h : fX2_allOf Γ.2 σ x0 x1 = some r) : CT l G yX2_allOf cX2_allOf 4 (some .int) d 0 0 [.ref (G.2.1 x0), .int x1] Γ σ (PP (some (.int r)) Γ σ) := by
  refine CT.ofWP (by decide) (Nat.le_of_ble_eq_true rfl) ?_
  have hQ : PP (some (.int r)) Γ σ (some (.int r)) Γ σ := PP.self
  generalize PP (some (.int r)) Γ σ = Q at hQ ⊢
  show WP l G yX2_allOf cX2_allOf 4 (some .int) d 0 0 Q 0 0 0 [(0, .ref (G.2.1 x0)), (1, .int x1)] [] Γ σ
  unfold fX2_allOf at h
  refine r_iconst (v := 0) dX2_allOf_0 (by decide) ?_
  refine r_istore_n (lv' := [(2, .int (0 : Int32)), (0, .ref (G.2.1 x0)), (1, .int x1)]) dX2_allOf_1 (by decide) rfl ?_
  refine r_iconst (v := 0) dX2_allOf_2 (by decide) ?_
  refine r_istore_n (lv' := [(3, .int (0 : Int32)), (2, .int (0 : Int32)), (0, .ref (G.2.1 x0)), (1, .int x1)]) dX2_allOf_3 (by decide) rfl ?_
  obtain ⟨b1, eb1, h⟩ := bd0_some h
  refine r_pick [2, 3, 1, 0] rfl ?_
  refine sX2_allOf_L4 hdd σ x0 x1 t0 (K := fun b => b = b1) ?_ 1000 ((0 : Int32), (0 : Int32)) b1 eb1 rfl
  rintro v2 rfl
  refine r_iload_n 0 dX2_allOf_34 rfl ?_
  obtain rfl := Option.some.inj h
  exact r_ireturn dX2_allOf_35 rfl hQ (Nat.le_refl _) (Nat.le_refl _)
theorem tX2_lesserSum_b63 {l : Launch} {G : gg} {Γ : ly} {d : Nat} {Q : Option Value → ly → mm → Prop} (hdd : 1 ≤ d) (σ : mm) (x0 : Nat) (x1 : Int32) (x2 : Int32) (x3 : Int32) (x4 : Int32) (x5 : Int32)  (t0 : tyOK Γ (0, 2) x0)  (r : ((Int32 × Int32 × Int32) ⊕ (Int32 × Int32))) (h : fX2_lesserSum_b63 Γ.2 σ x0 x1 x2 x3 x4 x5 = some r) (hb : ∀ (x3 : Int32) (x4 : Int32) (x5 : Int32), r = .inl (x3, x4, x5) → WP l G yX2_lesserSum cX2_lesserSum 6 (some .int) d 0 0 Q 0 0 8 [(0, .ref (G.2.1 x0)), (1, .int x1), (2, .int x2), (3, .int x3), (4, .int x4), (5, .int x5)] [] Γ σ) (hx0 : ∀ (x3 : Int32) (x4 : Int32), r = .inr (x3, x4) → WP l G yX2_lesserSum cX2_lesserSum 6 (some .int) d 0 0 Q 0 0 69 [(3, .int x3), (4, .int x4)] [] Γ σ) : WP l G yX2_lesserSum cX2_lesserSum 6 (some .int) d 0 0 Q 0 0 63 [(0, .ref (G.2.1 x0)), (1, .int x1), (2, .int x2), (3, .int x3), (4, .int x4), (5, .int x5)] [] Γ σ := by
  unfold fX2_lesserSum_b63 at h
  refine q_iinc (v := 1) 5 (fun v1 => [(5, .int v1), (0, .ref (G.2.1 x0)), (1, .int x1), (2, .int x2), (3, .int x3), (4, .int x4)]) dX2_lesserSum_63 rfl (by decide) (by decide) (fun _ => rfl) h (fun v1 h => ?_)
  refine r_goto 8 dX2_lesserSum_66 (by decide) ?_
  obtain rfl := Option.some.inj h
  refine r_pick [1, 2, 3, 4, 5, 0] rfl ?_
  exact hb _ _ _ rfl
theorem sX2_lesserSum_L8 {l : Launch} {G : gg} {Γ : ly} {d : Nat} {Q : Option Value → ly → mm → Prop} (hdd : 1 ≤ d) (σ : mm) (x0 : Nat) (x1 : Int32) (x2 : Int32) (t0 : tyOK Γ (0, 2) x0) {K : (Int32 × Int32) → Prop} (kx0 : ∀ (x3 : Int32) (x4 : Int32), K (x3, x4) → WP l G yX2_lesserSum cX2_lesserSum 6 (some .int) d 0 0 Q 0 0 69 [(3, .int x3), (4, .int x4)] [] Γ σ) : ∀ (N : Nat) (s : (Int32 × Int32 × Int32)) (b : (Int32 × Int32)), loopN (fX2_lesserSum_L8 Γ.2 σ x0 x1 x2) N s = some b → K b → WP l G yX2_lesserSum cX2_lesserSum 6 (some .int) d 0 0 Q 0 0 8 [(0, .ref (G.2.1 x0)), (1, .int x1), (2, .int x2), (3, .int s.1), (4, .int s.2.1), (5, .int s.2.2)] [] Γ σ := by
  refine r_loop (f := fX2_lesserSum_L8 Γ.2 σ x0 x1 x2) (hlv := fun s => [(0, .ref (G.2.1 x0)), (1, .int x1), (2, .int x2), (3, .int s.1), (4, .int s.2.1), (5, .int s.2.2)]) (hsg := fun s => σ) ?_
  rintro ⟨x3, x4, x5⟩ r h hb hx
  have hb : ∀ (x3 : Int32) (x4 : Int32) (x5 : Int32), r = .inl (x3, x4, x5) → WP l G yX2_lesserSum cX2_lesserSum 6 (some .int) d 0 0 Q 0 0 8 [(0, .ref (G.2.1 x0)), (1, .int x1), (2, .int x2), (3, .int x3), (4, .int x4), (5, .int x5)] [] Γ σ := fun x3 x4 x5 e => hb (x3, x4, x5) e
  have hx0 : ∀ (x3 : Int32) (x4 : Int32), r = .inr (x3, x4) → WP l G yX2_lesserSum cX2_lesserSum 6 (some .int) d 0 0 Q 0 0 69 [(3, .int x3), (4, .int x4)] [] Γ σ := fun x3 x4 e => kx0 x3 x4 (hx _ e)
  unfold fX2_lesserSum_L8 at h
  have h := un3_some h
  show WP l G yX2_lesserSum cX2_lesserSum 6 (some .int) d 0 0 Q 0 0 8 [(0, .ref (G.2.1 x0)), (1, .int x1), (2, .int x2), (3, .int x3), (4, .int x4), (5, .int x5)] [] Γ σ
  refine r_iload 5 dX2_lesserSum_8 rfl ?_
  refine r_aload_n 0 dX2_lesserSum_10 rfl ?_
  refine r_getI dX2_lesserSum_11 fd_X2_31 t0 ?_
  refine r_icmp_ge 69 dX2_lesserSum_14 (by decide) h (fun _ h => ?_) (fun _ h => ?_)
  · obtain rfl := Option.some.inj h
    refine r_pick [3, 4] rfl ?_
    exact hx0 _ _ rfl
  · refine r_aload_n 0 dX2_lesserSum_17 rfl ?_
    refine q_getR (e9 := (1, 0)) dX2_lesserSum_18 fd_X2_15 t0 rfl h (fun r1 tr1 h => ?_)
    refine r_iload 5 dX2_lesserSum_21 rfl ?_
    refine q_iald dX2_lesserSum_23 tr1 h (fun v2 h => ?_)
    refine r_iload_n 1 dX2_lesserSum_24 rfl ?_
    refine r_icmp_ne 63 dX2_lesserSum_25 (by decide) h (fun _ h => ?_) (fun _ h => ?_)
    · exact tX2_lesserSum_b63 hdd σ x0 x1 x2 x3 x4 x5 t0 _ h hb hx0
    · refine r_iload_n 2 dX2_lesserSum_28 rfl ?_
      refine r_iload 5 dX2_lesserSum_29 rfl ?_
      refine r_ishr dX2_lesserSum_31 ?_
      refine r_iconst (v := 1) dX2_lesserSum_32 (by decide) ?_
      refine r_iand dX2_lesserSum_33 ?_
      refine r_iconst (v := 1) dX2_lesserSum_34 (by decide) ?_
      refine r_icmp_ne 51 dX2_lesserSum_35 (by decide) h (fun _ h => ?_) (fun _ h => ?_)
      · refine r_iload 4 dX2_lesserSum_51 rfl ?_
        refine r_aload_n 0 dX2_lesserSum_53 rfl ?_
        refine q_getR (e9 := (1, 0)) dX2_lesserSum_54 fd_X2_22 t0 rfl h (fun r3 tr3 h => ?_)
        refine r_iload 5 dX2_lesserSum_57 rfl ?_
        refine q_iald dX2_lesserSum_59 tr3 h (fun v4 h => ?_)
        refine r_iadd dX2_lesserSum_60 ?_
        refine q_nmI h (fun v5 h => ?_)
        refine r_istore (lv' := [(4, .int v5), (0, .ref (G.2.1 x0)), (1, .int x1), (2, .int x2), (3, .int x3), (5, .int x5)]) dX2_lesserSum_61 (by decide) rfl ?_
        refine r_pick [1, 2, 3, 4, 0, 5] rfl ?_
        exact tX2_lesserSum_b63 hdd σ x0 x1 x2 x3 v5 x5 t0 _ h hb hx0
      · refine r_iload_n 3 dX2_lesserSum_38 rfl ?_
        refine r_aload_n 0 dX2_lesserSum_39 rfl ?_
        refine q_getR (e9 := (1, 0)) dX2_lesserSum_40 fd_X2_19 t0 rfl h (fun r6 tr6 h => ?_)
        refine r_iload 5 dX2_lesserSum_43 rfl ?_
        refine q_iald dX2_lesserSum_45 tr6 h (fun v7 h => ?_)
        refine r_iadd dX2_lesserSum_46 ?_
        refine q_nmI h (fun v8 h => ?_)
        refine r_istore_n (lv' := [(3, .int v8), (0, .ref (G.2.1 x0)), (1, .int x1), (2, .int x2), (4, .int x4), (5, .int x5)]) dX2_lesserSum_47 (by decide) rfl ?_
        refine r_goto 63 dX2_lesserSum_48 (by decide) ?_
        refine r_pick [1, 2, 3, 0, 4, 5] rfl ?_
        exact tX2_lesserSum_b63 hdd σ x0 x1 x2 v8 x4 x5 t0 _ h hb hx0
theorem kX2_lesserSum {l : Launch} {G : gg} {Γ : ly} {σ : mm} (d : Nat) (hdd : 1 ≤ d) (x0 : Nat) (x1 : Int32) (x2 : Int32) (t0 : tyOK Γ (0, 2) x0) (r : Int32) (h : fX2_lesserSum Γ.2 σ x0 x1 x2 = some r) : CT l G yX2_lesserSum cX2_lesserSum 6 (some .int) d 0 0 [.ref (G.2.1 x0), .int x1, .int x2] Γ σ (PP (some (.int r)) Γ σ) := by
  refine CT.ofWP (by decide) (Nat.le_of_ble_eq_true rfl) ?_
  have hQ : PP (some (.int r)) Γ σ (some (.int r)) Γ σ := PP.self
  generalize PP (some (.int r)) Γ σ = Q at hQ ⊢
  show WP l G yX2_lesserSum cX2_lesserSum 6 (some .int) d 0 0 Q 0 0 0 [(0, .ref (G.2.1 x0)), (1, .int x1), (2, .int x2)] [] Γ σ
  unfold fX2_lesserSum at h
  refine r_iconst (v := 0) dX2_lesserSum_0 (by decide) ?_
  refine r_istore_n (lv' := [(3, .int (0 : Int32)), (0, .ref (G.2.1 x0)), (1, .int x1), (2, .int x2)]) dX2_lesserSum_1 (by decide) rfl ?_
  refine r_iconst (v := 0) dX2_lesserSum_2 (by decide) ?_
  refine r_istore (lv' := [(4, .int (0 : Int32)), (3, .int (0 : Int32)), (0, .ref (G.2.1 x0)), (1, .int x1), (2, .int x2)]) dX2_lesserSum_3 (by decide) rfl ?_
  refine r_iconst (v := 0) dX2_lesserSum_5 (by decide) ?_
  refine r_istore (lv' := [(5, .int (0 : Int32)), (4, .int (0 : Int32)), (3, .int (0 : Int32)), (0, .ref (G.2.1 x0)), (1, .int x1), (2, .int x2)]) dX2_lesserSum_6 (by decide) rfl ?_
  obtain ⟨b1, eb1, h⟩ := bd0_some h
  refine r_pick [3, 4, 5, 2, 1, 0] rfl ?_
  refine sX2_lesserSum_L8 hdd σ x0 x1 x2 t0 (K := fun b => b = b1) ?_ 1000 ((0 : Int32), (0 : Int32), (0 : Int32)) b1 eb1 rfl
  rintro v2 v3 rfl
  have h := un2_some h
  refine r_iload_n 0 dX2_lesserSum_69 rfl ?_
  refine r_iload 1 dX2_lesserSum_70 rfl ?_
  refine r_min dX2_lesserSum_72 mx_X2_43 (Nat.le_of_ble_eq_true rfl) (by omega) (Nat.le_refl _) (Nat.le_refl _) ?_
  obtain rfl := Option.some.inj h
  exact r_ireturn dX2_lesserSum_75 rfl hQ (Nat.le_refl _) (Nat.le_refl _)
theorem tX2_bestParting_b61 {l : Launch} {G : gg} {Γ : ly} {d : Nat} {Q : Option Value → ly → mm → Prop} (hdd : 2 ≤ d) (σ : mm) (x0 : Nat) (x1 : Int32) (x2 : Int32) (x3 : Int32) (x4 : Int32) (x5 : Int32)  (t0 : tyOK Γ (0, 2) x0)  (r : ((Int32 × Int32 × Int32) ⊕ Int32)) (h : fX2_bestParting_b61 Γ.2 σ x0 x1 x2 x3 x4 x5 = some r) (hb : ∀ (x3 : Int32) (x4 : Int32) (x5 : Int32), r = .inl (x3, x4, x5) → WP l G yX2_bestParting cX2_bestParting 7 (some .int) d 0 0 Q 0 0 14 [(0, .ref (G.2.1 x0)), (1, .int x1), (2, .int x2), (3, .int x3), (4, .int x4), (5, .int x5)] [] Γ σ) (hx0 : ∀ (x3 : Int32), r = .inr x3 → WP l G yX2_bestParting cX2_bestParting 7 (some .int) d 0 0 Q 0 0 67 [(3, .int x3)] [] Γ σ) : WP l G yX2_bestParting cX2_bestParting 7 (some .int) d 0 0 Q 0 0 61 [(0, .ref (G.2.1 x0)), (1, .int x1), (2, .int x2), (3, .int x3), (4, .int x4), (5, .int x5)] [] Γ σ := by
  unfold fX2_bestParting_b61 at h
  refine q_iinc (v := 1) 5 (fun v1 => [(5, .int v1), (0, .ref (G.2.1 x0)), (1, .int x1), (2, .int x2), (3, .int x3), (4, .int x4)]) dX2_bestParting_61 rfl (by decide) (by decide) (fun _ => rfl) h (fun v1 h => ?_)
  refine r_goto 14 dX2_bestParting_64 (by decide) ?_
  obtain rfl := Option.some.inj h
  refine r_pick [1, 2, 3, 4, 5, 0] rfl ?_
  exact hb _ _ _ rfl
theorem tX2_bestParting_b45 {l : Launch} {G : gg} {Γ : ly} {d : Nat} {Q : Option Value → ly → mm → Prop} (hdd : 2 ≤ d) (σ : mm) (x0 : Nat) (x1 : Int32) (x2 : Int32) (x3 : Int32) (x4 : Int32) (x5 : Int32) (s0 : Int32) (t0 : tyOK Γ (0, 2) x0)  (r : ((Int32 × Int32 × Int32) ⊕ Int32)) (h : fX2_bestParting_b45 Γ.2 σ x0 x1 x2 x3 x4 x5 s0 = some r) (hb : ∀ (x3 : Int32) (x4 : Int32) (x5 : Int32), r = .inl (x3, x4, x5) → WP l G yX2_bestParting cX2_bestParting 7 (some .int) d 0 0 Q 0 0 14 [(0, .ref (G.2.1 x0)), (1, .int x1), (2, .int x2), (3, .int x3), (4, .int x4), (5, .int x5)] [] Γ σ) (hx0 : ∀ (x3 : Int32), r = .inr x3 → WP l G yX2_bestParting cX2_bestParting 7 (some .int) d 0 0 Q 0 0 67 [(3, .int x3)] [] Γ σ) : WP l G yX2_bestParting cX2_bestParting 7 (some .int) d 0 0 Q 0 0 45 [(0, .ref (G.2.1 x0)), (1, .int x1), (2, .int x2), (3, .int x3), (4, .int x4), (5, .int x5)] [.int s0] Γ σ := by
  unfold fX2_bestParting_b45 at h
  refine r_istore (lv' := [(6, .int s0), (0, .ref (G.2.1 x0)), (1, .int x1), (2, .int x2), (3, .int x3), (4, .int x4), (5, .int x5)]) dX2_bestParting_45 (by decide) rfl ?_
  refine r_iload 0 dX2_bestParting_47 rfl ?_
  refine r_iload 5 dX2_bestParting_49 rfl ?_
  refine r_icmp_le 61 dX2_bestParting_51 (by decide) h (fun _ h => ?_) (fun _ h => ?_)
  · refine r_pick [1, 2, 3, 4, 5, 6] rfl ?_
    exact tX2_bestParting_b61 hdd σ x0 x1 x2 x3 x4 x5 t0 _ h hb hx0
  · refine r_iload 6 dX2_bestParting_54 rfl ?_
    refine r_istore_n (lv' := [(3, .int x5), (6, .int s0), (0, .ref (G.2.1 x0)), (1, .int x1), (2, .int x2), (4, .int x4), (5, .int x5)]) dX2_bestParting_56 (by decide) rfl ?_
    refine r_iload 1 dX2_bestParting_57 rfl ?_
    refine r_istore (lv' := [(4, .int s0), (3, .int x5), (6, .int s0), (0, .ref (G.2.1 x0)), (1, .int x1), (2, .int x2), (5, .int x5)]) dX2_bestParting_59 (by decide) rfl ?_
    refine r_pick [3, 4, 5, 1, 0, 6] rfl ?_
    exact tX2_bestParting_b61 hdd σ x0 x1 x2 x5 s0 x5 t0 _ h hb hx0
theorem sX2_bestParting_L14 {l : Launch} {G : gg} {Γ : ly} {d : Nat} {Q : Option Value → ly → mm → Prop} (hdd : 2 ≤ d) (σ : mm) (x0 : Nat) (x1 : Int32) (x2 : Int32) (t0 : tyOK Γ (0, 2) x0) {K : Int32 → Prop} (kx0 : ∀ (x3 : Int32), K x3 → WP l G yX2_bestParting cX2_bestParting 7 (some .int) d 0 0 Q 0 0 67 [(3, .int x3)] [] Γ σ) : ∀ (N : Nat) (s : (Int32 × Int32 × Int32)) (b : Int32), loopN (fX2_bestParting_L14 Γ.2 σ x0 x1 x2) N s = some b → K b → WP l G yX2_bestParting cX2_bestParting 7 (some .int) d 0 0 Q 0 0 14 [(0, .ref (G.2.1 x0)), (1, .int x1), (2, .int x2), (3, .int s.1), (4, .int s.2.1), (5, .int s.2.2)] [] Γ σ := by
  refine r_loop (f := fX2_bestParting_L14 Γ.2 σ x0 x1 x2) (hlv := fun s => [(0, .ref (G.2.1 x0)), (1, .int x1), (2, .int x2), (3, .int s.1), (4, .int s.2.1), (5, .int s.2.2)]) (hsg := fun s => σ) ?_
  rintro ⟨x3, x4, x5⟩ r h hb hx
  have hb : ∀ (x3 : Int32) (x4 : Int32) (x5 : Int32), r = .inl (x3, x4, x5) → WP l G yX2_bestParting cX2_bestParting 7 (some .int) d 0 0 Q 0 0 14 [(0, .ref (G.2.1 x0)), (1, .int x1), (2, .int x2), (3, .int x3), (4, .int x4), (5, .int x5)] [] Γ σ := fun x3 x4 x5 e => hb (x3, x4, x5) e
  have hx0 : ∀ (x3 : Int32), r = .inr x3 → WP l G yX2_bestParting cX2_bestParting 7 (some .int) d 0 0 Q 0 0 67 [(3, .int x3)] [] Γ σ := fun x3 e => kx0 x3 (hx _ e)
  unfold fX2_bestParting_L14 at h
  have h := un3_some h
  show WP l G yX2_bestParting cX2_bestParting 7 (some .int) d 0 0 Q 0 0 14 [(0, .ref (G.2.1 x0)), (1, .int x1), (2, .int x2), (3, .int x3), (4, .int x4), (5, .int x5)] [] Γ σ
  refine r_iload 5 dX2_bestParting_14 rfl ?_
  refine r_iconst (v := 1) dX2_bestParting_16 (by decide) ?_
  refine r_aload_n 0 dX2_bestParting_17 rfl ?_
  refine r_getI dX2_bestParting_18 fd_X2_31 t0 ?_
  refine r_ishl dX2_bestParting_21 ?_
  refine r_icmp_ge 67 dX2_bestParting_22 (by decide) h (fun _ h => ?_) (fun _ h => ?_)
  · obtain rfl := Option.some.inj h
    refine r_pick [3] rfl ?_
    exact hx0 _ rfl
  · refine r_iload 5 dX2_bestParting_25 rfl ?_
    refine r_iload_n 2 dX2_bestParting_27 rfl ?_
    refine r_iconst (v := -1) dX2_bestParting_28 (by decide) ?_
    refine r_ixor dX2_bestParting_29 ?_
    refine r_iand dX2_bestParting_30 ?_
    refine r_if_ne 44 dX2_bestParting_31 (by decide) h (fun _ h => ?_) (fun _ h => ?_)
    · refine r_iconst (v := -1) dX2_bestParting_44 (by decide) ?_
      exact tX2_bestParting_b45 hdd σ x0 x1 x2 x3 x4 x5 (-1 : Int32) t0 _ h hb hx0
    · refine r_aload_n 0 dX2_bestParting_34 rfl ?_
      refine r_iload_n 1 dX2_bestParting_35 rfl ?_
      refine r_iload 5 dX2_bestParting_36 rfl ?_
      obtain ⟨v1, ev1, h⟩ := bd0_some h
      refine q_cVI [.int x1, .int x5] dX2_bestParting_38 cv_X2_39 (ci := 2) rfl rfl t0 rfl rfl (Nat.le_of_ble_eq_true rfl) (by omega) (kX2_lesserSum (d - 1) (by omega) x0 x1 x5 t0 v1 ev1) ?_
      refine r_goto 45 dX2_bestParting_41 (by decide) ?_
      exact tX2_bestParting_b45 hdd σ x0 x1 x2 x3 x4 x5 v1 t0 _ h hb hx0
theorem kX2_bestParting {l : Launch} {G : gg} {Γ : ly} {σ : mm} (d : Nat) (hdd : 2 ≤ d) (x0 : Nat) (x1 : Int32) (t0 : tyOK Γ (0, 2) x0) (r : Int32) (h : fX2_bestParting Γ.2 σ x0 x1 = some r) : CT l G yX2_bestParting cX2_bestParting 7 (some .int) d 0 0 [.ref (G.2.1 x0), .int x1] Γ σ (PP (some (.int r)) Γ σ) := by
  refine CT.ofWP (by decide) (Nat.le_of_ble_eq_true rfl) ?_
  have hQ : PP (some (.int r)) Γ σ (some (.int r)) Γ σ := PP.self
  generalize PP (some (.int r)) Γ σ = Q at hQ ⊢
  show WP l G yX2_bestParting cX2_bestParting 7 (some .int) d 0 0 Q 0 0 0 [(0, .ref (G.2.1 x0)), (1, .int x1)] [] Γ σ
  unfold fX2_bestParting at h
  refine r_aload_n 0 dX2_bestParting_0 rfl ?_
  refine r_iload_n 1 dX2_bestParting_1 rfl ?_
  obtain ⟨v1, ev1, h⟩ := bd0_some h
  refine q_cVI [.int x1] dX2_bestParting_2 cv_X2_35 (ci := 2) rfl rfl t0 rfl rfl (Nat.le_of_ble_eq_true rfl) (by omega) (kX2_allOf (d - 1) (by omega) x0 x1 t0 v1 ev1) ?_
  refine r_istore_n (lv' := [(2, .int v1), (0, .ref (G.2.1 x0)), (1, .int x1)]) dX2_bestParting_5 (by decide) rfl ?_
  refine r_iconst (v := 0) dX2_bestParting_6 (by decide) ?_
  refine r_istore_n (lv' := [(3, .int (0 : Int32)), (2, .int v1), (0, .ref (G.2.1 x0)), (1, .int x1)]) dX2_bestParting_7 (by decide) rfl ?_
  refine r_iconst (v := -1) dX2_bestParting_8 (by decide) ?_
  refine r_istore (lv' := [(4, .int (-1 : Int32)), (3, .int (0 : Int32)), (2, .int v1), (0, .ref (G.2.1 x0)), (1, .int x1)]) dX2_bestParting_9 (by decide) rfl ?_
  refine r_iconst (v := 0) dX2_bestParting_11 (by decide) ?_
  refine r_istore (lv' := [(5, .int (0 : Int32)), (4, .int (-1 : Int32)), (3, .int (0 : Int32)), (2, .int v1), (0, .ref (G.2.1 x0)), (1, .int x1)]) dX2_bestParting_12 (by decide) rfl ?_
  obtain ⟨b2, eb2, h⟩ := bd0_some h
  refine r_pick [4, 5, 3, 2, 1, 0] rfl ?_
  refine sX2_bestParting_L14 hdd σ x0 x1 v1 t0 (K := fun b => b = b2) ?_ 1000 ((0 : Int32), (-1 : Int32), (0 : Int32)) b2 eb2 rfl
  rintro v3 rfl
  refine r_iload_n 0 dX2_bestParting_67 rfl ?_
  obtain rfl := Option.some.inj h
  exact r_ireturn dX2_bestParting_68 rfl hQ (Nat.le_refl _) (Nat.le_refl _)
theorem sX3_begin_L17 {l : Launch} {G : gg} {Γ : ly} {d : Nat} {Q : Option Value → ly → mm → Prop} (hdd : 0 ≤ d) (x0 : Nat) (t0 : tyOK Γ (0, 3) x0) {K : mm → Prop} (kx0 : ∀ (σ9 : mm), K σ9 → WP l G yX3_begin cX3_begin 2 (none) d 0 0 Q 0 0 56 [(0, .ref (G.2.1 x0))] [] Γ σ9) : ∀ (N : Nat) (s : (Int32 × mm)) (b : mm), loopN (fX3_begin_L17 Γ.2 x0) N s = some b → K b → WP l G yX3_begin cX3_begin 2 (none) d 0 0 Q 0 0 17 [(0, .ref (G.2.1 x0)), (1, .int s.1)] [] Γ s.2 := by
  refine r_loop (f := fX3_begin_L17 Γ.2 x0) (hlv := fun s => [(0, .ref (G.2.1 x0)), (1, .int s.1)]) (hsg := fun s => s.2) ?_
  rintro ⟨x1, σ⟩ r h hb hx
  have hb : ∀ (x1 : Int32) (σ : mm), r = .inl (x1, σ) → WP l G yX3_begin cX3_begin 2 (none) d 0 0 Q 0 0 17 [(0, .ref (G.2.1 x0)), (1, .int x1)] [] Γ σ := fun x1 σ e => hb (x1, σ) e
  have hx0 : ∀ (σ9 : mm), r = .inr σ9 → WP l G yX3_begin cX3_begin 2 (none) d 0 0 Q 0 0 56 [(0, .ref (G.2.1 x0))] [] Γ σ9 := fun σ9 e => kx0 σ9 (hx _ e)
  unfold fX3_begin_L17 at h
  have h := un2_some h
  show WP l G yX3_begin cX3_begin 2 (none) d 0 0 Q 0 0 17 [(0, .ref (G.2.1 x0)), (1, .int x1)] [] Γ σ
  refine r_iload_n 1 dX3_begin_17 rfl ?_
  refine r_aload_n 0 dX3_begin_18 rfl ?_
  refine q_getR (e9 := (0, 4)) dX3_begin_19 fd_X3_33 t0 rfl h (fun r1 tr1 h => ?_)
  refine r_getI dX3_begin_22 fd_X3_47 tr1 ?_
  refine r_icmp_ge 56 dX3_begin_25 (by decide) h (fun _ h => ?_) (fun _ h => ?_)
  · obtain rfl := Option.some.inj h
    refine r_pick [0] rfl ?_
    exact hx0 _ rfl
  · refine r_aload_n 0 dX3_begin_28 rfl ?_
    refine q_getR (e9 := (1, 0)) dX3_begin_29 fd_X3_9 t0 rfl h (fun r2 tr2 h => ?_)
    refine r_iload_n 1 dX3_begin_32 rfl ?_
    refine r_aload_n 0 dX3_begin_33 rfl ?_
    refine q_getR (e9 := (0, 4)) dX3_begin_34 fd_X3_33 t0 rfl h (fun r3 tr3 h => ?_)
    refine q_getR (e9 := (1, 0)) dX3_begin_37 fd_X3_52 tr3 rfl h (fun r4 tr4 h => ?_)
    refine r_iload_n 1 dX3_begin_40 rfl ?_
    refine q_iald dX3_begin_41 tr4 h (fun v5 h => ?_)
    refine q_iast dX3_begin_42 tr2 h (fun τ6 h => ?_)
    refine r_aload_n 0 dX3_begin_43 rfl ?_
    refine q_getR (e9 := (1, 0)) dX3_begin_44 fd_X3_15 t0 rfl h (fun r7 tr7 h => ?_)
    refine r_iload_n 1 dX3_begin_47 rfl ?_
    refine r_iconst (v := 0) dX3_begin_48 (by decide) ?_
    refine q_iast dX3_begin_49 tr7 h (fun τ8 h => ?_)
    refine q_iinc (v := 1) 1 (fun v9 => [(1, .int v9), (0, .ref (G.2.1 x0))]) dX3_begin_50 rfl (by decide) (by decide) (fun _ => rfl) h (fun v9 h => ?_)
    refine r_goto 17 dX3_begin_53 (by decide) ?_
    obtain rfl := Option.some.inj h
    refine r_pick [1, 0] rfl ?_
    exact hb _ _ rfl
theorem sX3_begin_L58 {l : Launch} {G : gg} {Γ : ly} {d : Nat} {Q : Option Value → ly → mm → Prop} (hdd : 0 ≤ d) (x0 : Nat) (t0 : tyOK Γ (0, 3) x0) {K : mm → Prop} (kx0 : ∀ (σ9 : mm), K σ9 → WP l G yX3_begin cX3_begin 2 (none) d 0 0 Q 0 0 126 [] [] Γ σ9) : ∀ (N : Nat) (s : (Int32 × mm)) (b : mm), loopN (fX3_begin_L58 Γ.2 x0) N s = some b → K b → WP l G yX3_begin cX3_begin 2 (none) d 0 0 Q 0 0 58 [(0, .ref (G.2.1 x0)), (1, .int s.1)] [] Γ s.2 := by
  refine r_loop (f := fX3_begin_L58 Γ.2 x0) (hlv := fun s => [(0, .ref (G.2.1 x0)), (1, .int s.1)]) (hsg := fun s => s.2) ?_
  rintro ⟨x1, σ⟩ r h hb hx
  have hb : ∀ (x1 : Int32) (σ : mm), r = .inl (x1, σ) → WP l G yX3_begin cX3_begin 2 (none) d 0 0 Q 0 0 58 [(0, .ref (G.2.1 x0)), (1, .int x1)] [] Γ σ := fun x1 σ e => hb (x1, σ) e
  have hx0 : ∀ (σ9 : mm), r = .inr σ9 → WP l G yX3_begin cX3_begin 2 (none) d 0 0 Q 0 0 126 [] [] Γ σ9 := fun σ9 e => kx0 σ9 (hx _ e)
  unfold fX3_begin_L58 at h
  have h := un2_some h
  show WP l G yX3_begin cX3_begin 2 (none) d 0 0 Q 0 0 58 [(0, .ref (G.2.1 x0)), (1, .int x1)] [] Γ σ
  refine r_iload_n 1 dX3_begin_58 rfl ?_
  refine r_aload_n 0 dX3_begin_59 rfl ?_
  refine q_getR (e9 := (0, 4)) dX3_begin_60 fd_X3_33 t0 rfl h (fun r1 tr1 h => ?_)
  refine r_getI dX3_begin_63 fd_X3_55 tr1 ?_
  refine r_icmp_ge 126 dX3_begin_66 (by decide) h (fun _ h => ?_) (fun _ h => ?_)
  · obtain rfl := Option.some.inj h
    refine r_pick [] rfl ?_
    exact hx0 _ rfl
  · refine r_aload_n 0 dX3_begin_69 rfl ?_
    refine q_getR (e9 := (1, 0)) dX3_begin_70 fd_X3_18 t0 rfl h (fun r2 tr2 h => ?_)
    refine r_iload_n 1 dX3_begin_73 rfl ?_
    refine r_aload_n 0 dX3_begin_74 rfl ?_
    refine q_getR (e9 := (0, 4)) dX3_begin_75 fd_X3_33 t0 rfl h (fun r3 tr3 h => ?_)
    refine q_getR (e9 := (1, 0)) dX3_begin_78 fd_X3_58 tr3 rfl h (fun r4 tr4 h => ?_)
    refine r_iload_n 1 dX3_begin_81 rfl ?_
    refine q_iald dX3_begin_82 tr4 h (fun v5 h => ?_)
    refine q_iast dX3_begin_83 tr2 h (fun τ6 h => ?_)
    refine r_aload_n 0 dX3_begin_84 rfl ?_
    refine q_getR (e9 := (1, 0)) dX3_begin_85 fd_X3_21 t0 rfl h (fun r7 tr7 h => ?_)
    refine r_iload_n 1 dX3_begin_88 rfl ?_
    refine r_iconst (v := 0) dX3_begin_89 (by decide) ?_
    refine q_iast dX3_begin_90 tr7 h (fun τ8 h => ?_)
    refine r_aload_n 0 dX3_begin_91 rfl ?_
    refine q_getR (e9 := (1, 0)) dX3_begin_92 fd_X3_24 t0 rfl h (fun r9 tr9 h => ?_)
    refine r_iload_n 1 dX3_begin_95 rfl ?_
    refine r_aload_n 0 dX3_begin_96 rfl ?_
    refine q_getR (e9 := (0, 4)) dX3_begin_97 fd_X3_33 t0 rfl h (fun r10 tr10 h => ?_)
    refine q_getR (e9 := (1, 0)) dX3_begin_100 fd_X3_61 tr10 rfl h (fun r11 tr11 h => ?_)
    refine r_iload_n 1 dX3_begin_103 rfl ?_
    refine q_iald dX3_begin_104 tr11 h (fun v12 h => ?_)
    refine q_iast dX3_begin_105 tr9 h (fun τ13 h => ?_)
    refine r_aload_n 0 dX3_begin_106 rfl ?_
    refine q_getR (e9 := (1, 0)) dX3_begin_107 fd_X3_27 t0 rfl h (fun r14 tr14 h => ?_)
    refine r_iload_n 1 dX3_begin_110 rfl ?_
    refine r_iconst (v := 0) dX3_begin_111 (by decide) ?_
    refine q_iast dX3_begin_112 tr14 h (fun τ15 h => ?_)
    refine r_aload_n 0 dX3_begin_113 rfl ?_
    refine q_getR (e9 := (1, 0)) dX3_begin_114 fd_X3_30 t0 rfl h (fun r16 tr16 h => ?_)
    refine r_iload_n 1 dX3_begin_117 rfl ?_
    refine r_iconst (v := 0) dX3_begin_118 (by decide) ?_
    refine q_iast dX3_begin_119 tr16 h (fun τ17 h => ?_)
    refine q_iinc (v := 1) 1 (fun v18 => [(1, .int v18), (0, .ref (G.2.1 x0))]) dX3_begin_120 rfl (by decide) (by decide) (fun _ => rfl) h (fun v18 h => ?_)
    refine r_goto 58 dX3_begin_123 (by decide) ?_
    obtain rfl := Option.some.inj h
    refine r_pick [1, 0] rfl ?_
    exact hb _ _ rfl
theorem kX3_begin {l : Launch} {G : gg} {Γ : ly} {σ : mm} (d : Nat) (hdd : 0 ≤ d) (x0 : Nat) (t0 : tyOK Γ (0, 3) x0) (r : mm) (h : fX3_begin Γ.2 σ x0 = some r) : CT l G yX3_begin cX3_begin 2 (none) d 0 0 [.ref (G.2.1 x0)] Γ σ (PP none Γ r) := by
  refine CT.ofWP (by decide) (Nat.le_of_ble_eq_true rfl) ?_
  have hQ : PP none Γ r none Γ r := PP.self
  generalize PP none Γ r = Q at hQ ⊢
  show WP l G yX3_begin cX3_begin 2 (none) d 0 0 Q 0 0 0 [(0, .ref (G.2.1 x0))] [] Γ σ
  unfold fX3_begin at h
  refine r_aload_n 0 dX3_begin_0 rfl ?_
  refine r_iconst (v := 0) dX3_begin_1 (by decide) ?_
  refine q_putI dX3_begin_2 fd_X3_37 t0 h (fun τ1 h => ?_)
  refine r_aload_n 0 dX3_begin_5 rfl ?_
  refine r_iconst (v := 0) dX3_begin_6 (by decide) ?_
  refine q_putI dX3_begin_7 fd_X3_41 t0 h (fun τ2 h => ?_)
  refine r_aload_n 0 dX3_begin_10 rfl ?_
  refine r_iconst (v := 0) dX3_begin_11 (by decide) ?_
  refine q_putI dX3_begin_12 fd_X3_44 t0 h (fun τ3 h => ?_)
  refine r_iconst (v := 0) dX3_begin_15 (by decide) ?_
  refine r_istore_n (lv' := [(1, .int (0 : Int32)), (0, .ref (G.2.1 x0))]) dX3_begin_16 (by decide) rfl ?_
  obtain ⟨b4, eb4, h⟩ := bd0_some h
  refine r_pick [1, 0] rfl ?_
  refine sX3_begin_L17 hdd x0 t0 (K := fun b => b = b4) ?_ 1000 ((0 : Int32), τ3) b4 eb4 rfl
  rintro τ5 rfl
  refine r_iconst (v := 0) dX3_begin_56 (by decide) ?_
  refine r_istore_n (lv' := [(1, .int (0 : Int32)), (0, .ref (G.2.1 x0))]) dX3_begin_57 (by decide) rfl ?_
  obtain ⟨b6, eb6, h⟩ := bd0_some h
  refine r_pick [1, 0] rfl ?_
  refine sX3_begin_L58 hdd x0 t0 (K := fun b => b = b6) ?_ 1000 ((0 : Int32), τ5) b6 eb6 rfl
  rintro τ7 rfl
  obtain rfl := Option.some.inj h
  exact r_return dX3_begin_126 rfl hQ (Nat.le_refl _) (Nat.le_refl _)
