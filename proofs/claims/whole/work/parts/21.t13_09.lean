/-! the walks, 9 -/
theorem tX13_partsOf_b129 {l : Launch} {G : gg} {Γ : ly} {d : Nat} {Q : Option Value → ly → mm → Prop} (hdd : 2 ≤ d) (σ : mm) (x0 : Nat) (x1 : Int32) (x2 : Int32) (x3 : Int32) (x4 : Int32) (x5 : Int32) (x6 : Int32) (x7 : Int32)  (t0 : tyOK Γ (0, 12) x0)  (r : ((Int32 × Int32 × Int32 × Int32) ⊕ (Int32 × Int32 × Int32))) (h : fX13_partsOf_b129 Γ.2 σ x0 x1 x2 x3 x4 x5 x6 x7 = some r) (hb : ∀ (x4 : Int32) (x5 : Int32) (x6 : Int32) (x7 : Int32), r = .inl (x4, x5, x6, x7) → WP l G yX13_partsOf cX13_partsOf 9 (some .int) d 0 0 Q 0 0 38 [(0, .ref (G.2.1 x0)), (1, .int x1), (2, .int x2), (3, .int x3), (4, .int x4), (5, .int x5), (6, .int x6), (7, .int x7)] [] Γ σ) (hx0 : ∀ (x4 : Int32) (x5 : Int32) (x6 : Int32), r = .inr (x4, x5, x6) → WP l G yX13_partsOf cX13_partsOf 9 (some .int) d 0 0 Q 0 0 135 [(0, .ref (G.2.1 x0)), (1, .int x1), (2, .int x2), (3, .int x3), (4, .int x4), (5, .int x5), (6, .int x6)] [] Γ σ) : WP l G yX13_partsOf cX13_partsOf 9 (some .int) d 0 0 Q 0 0 129 [(0, .ref (G.2.1 x0)), (1, .int x1), (2, .int x2), (3, .int x3), (4, .int x4), (5, .int x5), (6, .int x6), (7, .int x7)] [] Γ σ := by
  unfold fX13_partsOf_b129 at h
  refine q_iinc (v := 1) 7 (fun v1 => [(7, .int v1), (0, .ref (G.2.1 x0)), (1, .int x1), (2, .int x2), (3, .int x3), (4, .int x4), (5, .int x5), (6, .int x6)]) dX13_partsOf_129 rfl (by decide) (by decide) (fun _ => rfl) h (fun v1 h => ?_)
  refine r_goto 38 dX13_partsOf_132 (by decide) ?_
  obtain rfl := Option.some.inj h
  refine r_pick [1, 2, 3, 4, 5, 6, 7, 0] rfl ?_
  exact hb _ _ _ _ rfl
theorem tX13_partsOf_b86 {l : Launch} {G : gg} {Γ : ly} {d : Nat} {Q : Option Value → ly → mm → Prop} (hdd : 2 ≤ d) (σ : mm) (x0 : Nat) (x1 : Int32) (x2 : Int32) (x3 : Int32) (x4 : Int32) (x5 : Int32) (x7 : Int32) (s0 : Int32) (t0 : tyOK Γ (0, 12) x0)  (r : ((Int32 × Int32 × Int32 × Int32) ⊕ (Int32 × Int32 × Int32))) (h : fX13_partsOf_b86 Γ.2 σ x0 x1 x2 x3 x4 x5 x7 s0 = some r) (hb : ∀ (x4 : Int32) (x5 : Int32) (x6 : Int32) (x7 : Int32), r = .inl (x4, x5, x6, x7) → WP l G yX13_partsOf cX13_partsOf 9 (some .int) d 0 0 Q 0 0 38 [(0, .ref (G.2.1 x0)), (1, .int x1), (2, .int x2), (3, .int x3), (4, .int x4), (5, .int x5), (6, .int x6), (7, .int x7)] [] Γ σ) (hx0 : ∀ (x4 : Int32) (x5 : Int32) (x6 : Int32), r = .inr (x4, x5, x6) → WP l G yX13_partsOf cX13_partsOf 9 (some .int) d 0 0 Q 0 0 135 [(0, .ref (G.2.1 x0)), (1, .int x1), (2, .int x2), (3, .int x3), (4, .int x4), (5, .int x5), (6, .int x6)] [] Γ σ) : WP l G yX13_partsOf cX13_partsOf 9 (some .int) d 0 0 Q 0 0 86 [(0, .ref (G.2.1 x0)), (1, .int x1), (2, .int x2), (3, .int x3), (4, .int x4), (5, .int x5), (7, .int x7)] [.int s0] Γ σ := by
  unfold fX13_partsOf_b86 at h
  refine r_istore (lv' := [(6, .int s0), (0, .ref (G.2.1 x0)), (1, .int x1), (2, .int x2), (3, .int x3), (4, .int x4), (5, .int x5), (7, .int x7)]) dX13_partsOf_86 (by decide) rfl ?_
  refine r_goto 129 dX13_partsOf_88 (by decide) ?_
  refine r_pick [1, 2, 3, 4, 5, 6, 0, 7] rfl ?_
  exact tX13_partsOf_b129 hdd σ x0 x1 x2 x3 x4 x5 s0 x7 t0 _ h hb hx0
theorem tX13_partsOf_b85 {l : Launch} {G : gg} {Γ : ly} {d : Nat} {Q : Option Value → ly → mm → Prop} (hdd : 2 ≤ d) (σ : mm) (x0 : Nat) (x1 : Int32) (x2 : Int32) (x3 : Int32) (x4 : Int32) (x5 : Int32) (x7 : Int32)  (t0 : tyOK Γ (0, 12) x0)  (r : ((Int32 × Int32 × Int32 × Int32) ⊕ (Int32 × Int32 × Int32))) (h : fX13_partsOf_b85 Γ.2 σ x0 x1 x2 x3 x4 x5 x7 = some r) (hb : ∀ (x4 : Int32) (x5 : Int32) (x6 : Int32) (x7 : Int32), r = .inl (x4, x5, x6, x7) → WP l G yX13_partsOf cX13_partsOf 9 (some .int) d 0 0 Q 0 0 38 [(0, .ref (G.2.1 x0)), (1, .int x1), (2, .int x2), (3, .int x3), (4, .int x4), (5, .int x5), (6, .int x6), (7, .int x7)] [] Γ σ) (hx0 : ∀ (x4 : Int32) (x5 : Int32) (x6 : Int32), r = .inr (x4, x5, x6) → WP l G yX13_partsOf cX13_partsOf 9 (some .int) d 0 0 Q 0 0 135 [(0, .ref (G.2.1 x0)), (1, .int x1), (2, .int x2), (3, .int x3), (4, .int x4), (5, .int x5), (6, .int x6)] [] Γ σ) : WP l G yX13_partsOf cX13_partsOf 9 (some .int) d 0 0 Q 0 0 85 [(0, .ref (G.2.1 x0)), (1, .int x1), (2, .int x2), (3, .int x3), (4, .int x4), (5, .int x5), (7, .int x7)] [] Γ σ := by
  unfold fX13_partsOf_b85 at h
  refine r_iconst (v := 0) dX13_partsOf_85 (by decide) ?_
  exact tX13_partsOf_b86 hdd σ x0 x1 x2 x3 x4 x5 x7 (0 : Int32) t0 _ h hb hx0
theorem sX13_partsOf_L38 {l : Launch} {G : gg} {Γ : ly} {d : Nat} {Q : Option Value → ly → mm → Prop} (hdd : 2 ≤ d) (σ : mm) (x0 : Nat) (x1 : Int32) (x2 : Int32) (x3 : Int32) (t0 : tyOK Γ (0, 12) x0) {K : (Int32 × Int32 × Int32) → Prop} (kx0 : ∀ (x4 : Int32) (x5 : Int32) (x6 : Int32), K (x4, x5, x6) → WP l G yX13_partsOf cX13_partsOf 9 (some .int) d 0 0 Q 0 0 135 [(0, .ref (G.2.1 x0)), (1, .int x1), (2, .int x2), (3, .int x3), (4, .int x4), (5, .int x5), (6, .int x6)] [] Γ σ) : ∀ (N : Nat) (s : (Int32 × Int32 × Int32 × Int32)) (b : (Int32 × Int32 × Int32)), loopN (fX13_partsOf_L38 Γ.2 σ x0 x1 x2 x3) N s = some b → K b → WP l G yX13_partsOf cX13_partsOf 9 (some .int) d 0 0 Q 0 0 38 [(0, .ref (G.2.1 x0)), (1, .int x1), (2, .int x2), (3, .int x3), (4, .int s.1), (5, .int s.2.1), (6, .int s.2.2.1), (7, .int s.2.2.2)] [] Γ σ := by
  refine r_loop (f := fX13_partsOf_L38 Γ.2 σ x0 x1 x2 x3) (hlv := fun s => [(0, .ref (G.2.1 x0)), (1, .int x1), (2, .int x2), (3, .int x3), (4, .int s.1), (5, .int s.2.1), (6, .int s.2.2.1), (7, .int s.2.2.2)]) (hsg := fun s => σ) ?_
  rintro ⟨x4, x5, x6, x7⟩ r h hb hx
  have hb : ∀ (x4 : Int32) (x5 : Int32) (x6 : Int32) (x7 : Int32), r = .inl (x4, x5, x6, x7) → WP l G yX13_partsOf cX13_partsOf 9 (some .int) d 0 0 Q 0 0 38 [(0, .ref (G.2.1 x0)), (1, .int x1), (2, .int x2), (3, .int x3), (4, .int x4), (5, .int x5), (6, .int x6), (7, .int x7)] [] Γ σ := fun x4 x5 x6 x7 e => hb (x4, x5, x6, x7) e
  have hx0 : ∀ (x4 : Int32) (x5 : Int32) (x6 : Int32), r = .inr (x4, x5, x6) → WP l G yX13_partsOf cX13_partsOf 9 (some .int) d 0 0 Q 0 0 135 [(0, .ref (G.2.1 x0)), (1, .int x1), (2, .int x2), (3, .int x3), (4, .int x4), (5, .int x5), (6, .int x6)] [] Γ σ := fun x4 x5 x6 e => kx0 x4 x5 x6 (hx _ e)
  unfold fX13_partsOf_L38 at h
  have h := un4_some h
  show WP l G yX13_partsOf cX13_partsOf 9 (some .int) d 0 0 Q 0 0 38 [(0, .ref (G.2.1 x0)), (1, .int x1), (2, .int x2), (3, .int x3), (4, .int x4), (5, .int x5), (6, .int x6), (7, .int x7)] [] Γ σ
  refine r_iload 7 dX13_partsOf_38 rfl ?_
  refine r_aload_n 0 dX13_partsOf_40 rfl ?_
  refine q_getR (e9 := (1, 0)) dX13_partsOf_41 fd_X13_98 t0 rfl h (fun r1 tr1 h => ?_)
  refine r_iconst (v := 2) dX13_partsOf_44 (by decide) ?_
  refine q_iald dX13_partsOf_45 tr1 h (fun v2 h => ?_)
  refine r_icmp_ge 135 dX13_partsOf_46 (by decide) h (fun _ h => ?_) (fun _ h => ?_)
  · obtain rfl := Option.some.inj h
    refine r_pick [0, 1, 2, 3, 4, 5, 6] rfl ?_
    exact hx0 _ _ _ rfl
  · refine r_iload_n 3 dX13_partsOf_49 rfl ?_
    refine r_iload 7 dX13_partsOf_50 rfl ?_
    obtain ⟨v3, ev3, h⟩ := bd0_some h
    refine q_cSI [.int x3, .int x7] dX13_partsOf_52 cs_X13_185 rfl rfl (Nat.le_of_ble_eq_true rfl) (by omega) (kX13_has (d - 1) (by omega) x3 x7  v3 ev3) ?_
    refine r_istore (lv' := [(8, .int v3), (0, .ref (G.2.1 x0)), (1, .int x1), (2, .int x2), (3, .int x3), (4, .int x4), (5, .int x5), (6, .int x6), (7, .int x7)]) dX13_partsOf_55 (by decide) rfl ?_
    refine r_aload_n 1 dX13_partsOf_57 rfl ?_
    refine q_getR (e9 := (1, 0)) dX13_partsOf_58 fd_X13_98 t0 rfl h (fun r4 tr4 h => ?_)
    refine r_bipush (v := 84) dX13_partsOf_61 (by decide) ?_
    refine r_iload 8 dX13_partsOf_63 rfl ?_
    refine r_iadd dX13_partsOf_65 ?_
    refine q_iald dX13_partsOf_66 tr4 h (fun v5 h => ?_)
    refine r_iload_n 2 dX13_partsOf_67 rfl ?_
    refine r_icmp_eq 91 dX13_partsOf_68 (by decide) h (fun _ h => ?_) (fun _ h => ?_)
    · refine r_iload 0 dX13_partsOf_91 rfl ?_
      refine r_if_eq 114 dX13_partsOf_93 (by decide) h (fun _ h => ?_) (fun _ h => ?_)
      · refine r_iload 6 dX13_partsOf_114 rfl ?_
        refine r_aload_n 1 dX13_partsOf_116 rfl ?_
        refine q_getR (e9 := (1, 0)) dX13_partsOf_117 fd_X13_98 t0 rfl h (fun r6 tr6 h => ?_)
        refine r_bipush (v := 96) dX13_partsOf_120 (by decide) ?_
        refine r_iload 8 dX13_partsOf_122 rfl ?_
        refine r_iadd dX13_partsOf_124 ?_
        refine q_iald dX13_partsOf_125 tr6 h (fun v7 h => ?_)
        refine r_iadd dX13_partsOf_126 ?_
        refine q_nmI h (fun v8 h => ?_)
        refine r_istore (lv' := [(5, .int v8), (8, .int v3), (0, .ref (G.2.1 x0)), (1, .int x1), (2, .int x2), (3, .int x3), (4, .int x4), (6, .int x6), (7, .int x7)]) dX13_partsOf_127 (by decide) rfl ?_
        refine r_pick [2, 3, 4, 5, 6, 0, 7, 8] rfl ?_
        exact tX13_partsOf_b129 hdd σ x0 x1 x2 x3 x4 v8 x6 x7 t0 _ h hb hx0
      · refine r_iload 5 dX13_partsOf_96 rfl ?_
        refine r_aload_n 1 dX13_partsOf_98 rfl ?_
        refine q_getR (e9 := (1, 0)) dX13_partsOf_99 fd_X13_98 t0 rfl h (fun r9 tr9 h => ?_)
        refine r_bipush (v := 90) dX13_partsOf_102 (by decide) ?_
        refine r_iload 8 dX13_partsOf_104 rfl ?_
        refine r_iadd dX13_partsOf_106 ?_
        refine q_iald dX13_partsOf_107 tr9 h (fun v10 h => ?_)
        refine r_iadd dX13_partsOf_108 ?_
        refine q_nmI h (fun v11 h => ?_)
        refine r_istore (lv' := [(4, .int v11), (8, .int v3), (0, .ref (G.2.1 x0)), (1, .int x1), (2, .int x2), (3, .int x3), (5, .int x5), (6, .int x6), (7, .int x7)]) dX13_partsOf_109 (by decide) rfl ?_
        refine r_goto 129 dX13_partsOf_111 (by decide) ?_
        refine r_pick [2, 3, 4, 5, 0, 6, 7, 8] rfl ?_
        exact tX13_partsOf_b129 hdd σ x0 x1 x2 x3 v11 x5 x6 x7 t0 _ h hb hx0
    · refine r_iload 7 dX13_partsOf_71 rfl ?_
      refine r_if_eq 85 dX13_partsOf_73 (by decide) h (fun _ h => ?_) (fun _ h => ?_)
      · refine r_pick [1, 2, 3, 4, 5, 6, 8] rfl ?_
        exact tX13_partsOf_b85 hdd σ x0 x1 x2 x3 x4 x5 x7 t0 _ h hb hx0
      · refine r_iload 0 dX13_partsOf_76 rfl ?_
        refine r_if_ne 85 dX13_partsOf_78 (by decide) h (fun _ h => ?_) (fun _ h => ?_)
        · refine r_pick [1, 2, 3, 4, 5, 6, 8] rfl ?_
          exact tX13_partsOf_b85 hdd σ x0 x1 x2 x3 x4 x5 x7 t0 _ h hb hx0
        · refine r_iconst (v := 1) dX13_partsOf_81 (by decide) ?_
          refine r_goto 86 dX13_partsOf_82 (by decide) ?_
          refine r_pick [1, 2, 3, 4, 5, 6, 8] rfl ?_
          exact tX13_partsOf_b86 hdd σ x0 x1 x2 x3 x4 x5 x7 (1 : Int32) t0 _ h hb hx0
theorem tX13_partsOf_b167 {l : Launch} {G : gg} {Γ : ly} {d : Nat} {Q : Option Value → ly → mm → Prop} (hdd : 2 ≤ d) (σ : mm) (x0 : Nat) (x1 : Int32) (x2 : Int32) (x3 : Int32)  (t0 : tyOK Γ (0, 12) x0)  (r : ((Int32 × Int32 × mm) ⊕ (Int32 × mm))) (h : fX13_partsOf_b167 Γ.2 σ x0 x1 x2 x3 = some r) (hb : ∀ (x2 : Int32) (x3 : Int32) (σ9 : mm), r = .inl (x2, x3, σ9) → WP l G yX13_partsOf cX13_partsOf 9 (some .int) d 0 0 Q 0 0 14 [(0, .ref (G.2.1 x0)), (1, .int x1), (2, .int x2), (3, .int x3)] [] Γ σ9) (hx0 : ∀ (x2 : Int32) (σ9 : mm), r = .inr (x2, σ9) → WP l G yX13_partsOf cX13_partsOf 9 (some .int) d 0 0 Q 0 0 173 [(2, .int x2)] [] Γ σ9) : WP l G yX13_partsOf cX13_partsOf 9 (some .int) d 0 0 Q 0 0 167 [(0, .ref (G.2.1 x0)), (1, .int x1), (2, .int x2), (3, .int x3)] [] Γ σ := by
  unfold fX13_partsOf_b167 at h
  refine q_iinc (v := 1) 3 (fun v1 => [(3, .int v1), (0, .ref (G.2.1 x0)), (1, .int x1), (2, .int x2)]) dX13_partsOf_167 rfl (by decide) (by decide) (fun _ => rfl) h (fun v1 h => ?_)
  refine r_goto 14 dX13_partsOf_170 (by decide) ?_
  obtain rfl := Option.some.inj h
  refine r_pick [1, 2, 3, 0] rfl ?_
  exact hb _ _ _ rfl
theorem sX13_partsOf_L14 {l : Launch} {G : gg} {Γ : ly} {d : Nat} {Q : Option Value → ly → mm → Prop} (hdd : 2 ≤ d) (x0 : Nat) (x1 : Int32) (t0 : tyOK Γ (0, 12) x0) {K : (Int32 × mm) → Prop} (kx0 : ∀ (x2 : Int32) (σ9 : mm), K (x2, σ9) → WP l G yX13_partsOf cX13_partsOf 9 (some .int) d 0 0 Q 0 0 173 [(2, .int x2)] [] Γ σ9) : ∀ (N : Nat) (s : (Int32 × Int32 × mm)) (b : (Int32 × mm)), loopN (fX13_partsOf_L14 Γ.2 x0 x1) N s = some b → K b → WP l G yX13_partsOf cX13_partsOf 9 (some .int) d 0 0 Q 0 0 14 [(0, .ref (G.2.1 x0)), (1, .int x1), (2, .int s.1), (3, .int s.2.1)] [] Γ s.2.2 := by
  refine r_loop (f := fX13_partsOf_L14 Γ.2 x0 x1) (hlv := fun s => [(0, .ref (G.2.1 x0)), (1, .int x1), (2, .int s.1), (3, .int s.2.1)]) (hsg := fun s => s.2.2) ?_
  rintro ⟨x2, x3, σ⟩ r h hb hx
  have hb : ∀ (x2 : Int32) (x3 : Int32) (σ : mm), r = .inl (x2, x3, σ) → WP l G yX13_partsOf cX13_partsOf 9 (some .int) d 0 0 Q 0 0 14 [(0, .ref (G.2.1 x0)), (1, .int x1), (2, .int x2), (3, .int x3)] [] Γ σ := fun x2 x3 σ e => hb (x2, x3, σ) e
  have hx0 : ∀ (x2 : Int32) (σ9 : mm), r = .inr (x2, σ9) → WP l G yX13_partsOf cX13_partsOf 9 (some .int) d 0 0 Q 0 0 173 [(2, .int x2)] [] Γ σ9 := fun x2 σ9 e => kx0 x2 σ9 (hx _ e)
  unfold fX13_partsOf_L14 at h
  have h := un3_some h
  show WP l G yX13_partsOf cX13_partsOf 9 (some .int) d 0 0 Q 0 0 14 [(0, .ref (G.2.1 x0)), (1, .int x1), (2, .int x2), (3, .int x3)] [] Γ σ
  refine r_iload_n 3 dX13_partsOf_14 rfl ?_
  refine r_iconst (v := 1) dX13_partsOf_15 (by decide) ?_
  refine r_aload_n 0 dX13_partsOf_16 rfl ?_
  refine q_getR (e9 := (1, 0)) dX13_partsOf_17 fd_X13_98 t0 rfl h (fun r1 tr1 h => ?_)
  refine r_iconst (v := 2) dX13_partsOf_20 (by decide) ?_
  refine q_iald dX13_partsOf_21 tr1 h (fun v2 h => ?_)
  refine r_ishl dX13_partsOf_22 ?_
  refine r_icmp_ge 173 dX13_partsOf_23 (by decide) h (fun _ h => ?_) (fun _ h => ?_)
  · obtain rfl := Option.some.inj h
    refine r_pick [2] rfl ?_
    exact hx0 _ _ rfl
  · refine r_iconst (v := 0) dX13_partsOf_26 (by decide) ?_
    refine r_istore (lv' := [(4, .int (0 : Int32)), (0, .ref (G.2.1 x0)), (1, .int x1), (2, .int x2), (3, .int x3)]) dX13_partsOf_27 (by decide) rfl ?_
    refine r_iconst (v := 0) dX13_partsOf_29 (by decide) ?_
    refine r_istore (lv' := [(5, .int (0 : Int32)), (4, .int (0 : Int32)), (0, .ref (G.2.1 x0)), (1, .int x1), (2, .int x2), (3, .int x3)]) dX13_partsOf_30 (by decide) rfl ?_
    refine r_iconst (v := 1) dX13_partsOf_32 (by decide) ?_
    refine r_istore (lv' := [(6, .int (1 : Int32)), (5, .int (0 : Int32)), (4, .int (0 : Int32)), (0, .ref (G.2.1 x0)), (1, .int x1), (2, .int x2), (3, .int x3)]) dX13_partsOf_33 (by decide) rfl ?_
    refine r_iconst (v := 0) dX13_partsOf_35 (by decide) ?_
    refine r_istore (lv' := [(7, .int (0 : Int32)), (6, .int (1 : Int32)), (5, .int (0 : Int32)), (4, .int (0 : Int32)), (0, .ref (G.2.1 x0)), (1, .int x1), (2, .int x2), (3, .int x3)]) dX13_partsOf_36 (by decide) rfl ?_
    obtain ⟨b3, eb3, h⟩ := bd0_some h
    refine r_pick [4, 5, 6, 7, 3, 2, 1, 0] rfl ?_
    refine sX13_partsOf_L38 hdd σ x0 x1 x2 x3 t0 (K := fun b => b = b3) ?_ 1000 ((0 : Int32), (0 : Int32), (1 : Int32), (0 : Int32)) b3 eb3 rfl
    rintro v4 v5 v6 rfl
    have h := un3_some h
    refine r_iload 6 dX13_partsOf_135 rfl ?_
    refine r_if_eq 167 dX13_partsOf_137 (by decide) h (fun _ h => ?_) (fun _ h => ?_)
    · refine r_pick [0, 1, 2, 3] rfl ?_
      exact tX13_partsOf_b167 hdd σ x0 x1 x2 x3 t0 _ h hb hx0
    · refine r_iload 4 dX13_partsOf_140 rfl ?_
      refine r_iload 5 dX13_partsOf_142 rfl ?_
      obtain ⟨v7, ev7, h⟩ := bd0_some h
      refine q_cSI [.int v4, .int v5] dX13_partsOf_144 cs_X13_227 rfl rfl (Nat.le_of_ble_eq_true rfl) (by omega) (kX13_least (d - 1) (by omega) v4 v5  v7 ev7) ?_
      refine r_iload_n 2 dX13_partsOf_147 rfl ?_
      refine r_icmp_gt 154 dX13_partsOf_148 (by decide) h (fun _ h => ?_) (fun _ h => ?_)
      · refine r_iload 4 dX13_partsOf_154 rfl ?_
        refine r_iload 5 dX13_partsOf_156 rfl ?_
        obtain ⟨v8, ev8, h⟩ := bd0_some h
        refine q_cSI [.int v4, .int v5] dX13_partsOf_158 cs_X13_227 rfl rfl (Nat.le_of_ble_eq_true rfl) (by omega) (kX13_least (d - 1) (by omega) v4 v5  v8 ev8) ?_
        refine r_istore_n (lv' := [(2, .int v8), (0, .ref (G.2.1 x0)), (1, .int x1), (3, .int x3), (4, .int v4), (5, .int v5), (6, .int v6)]) dX13_partsOf_161 (by decide) rfl ?_
        refine r_aload_n 1 dX13_partsOf_162 rfl ?_
        refine r_iload_n 3 dX13_partsOf_163 rfl ?_
        refine q_putI dX13_partsOf_164 fd_X13_355 t0 h (fun τ9 h => ?_)
        refine r_pick [1, 2, 0, 3] rfl ?_
        exact tX13_partsOf_b167 hdd τ9 x0 x1 v8 x3 t0 _ h hb hx0
      · refine r_goto 167 dX13_partsOf_151 (by decide) ?_
        refine r_pick [0, 1, 2, 3] rfl ?_
        exact tX13_partsOf_b167 hdd σ x0 x1 x2 x3 t0 _ h hb hx0
theorem kX13_partsOf {l : Launch} {G : gg} {Γ : ly} {σ : mm} (d : Nat) (hdd : 2 ≤ d) (x0 : Nat) (x1 : Int32) (t0 : tyOK Γ (0, 12) x0) (r : (Int32 × mm)) (h : fX13_partsOf Γ.2 σ x0 x1 = some r) : CT l G yX13_partsOf cX13_partsOf 9 (some .int) d 0 0 [.ref (G.2.1 x0), .int x1] Γ σ (PP (some (.int r.1)) Γ r.2) := by
  refine CT.ofWP (by decide) (Nat.le_of_ble_eq_true rfl) ?_
  have hQ : PP (some (.int r.1)) Γ r.2 (some (.int r.1)) Γ r.2 := PP.self
  generalize PP (some (.int r.1)) Γ r.2 = Q at hQ ⊢
  show WP l G yX13_partsOf cX13_partsOf 9 (some .int) d 0 0 Q 0 0 0 [(0, .ref (G.2.1 x0)), (1, .int x1)] [] Γ σ
  unfold fX13_partsOf at h
  refine r_aload_n 0 dX13_partsOf_0 rfl ?_
  refine r_iload_n 1 dX13_partsOf_1 rfl ?_
  obtain ⟨v1, ev1, h⟩ := bd0_some h
  refine q_cVI [.int x1] dX13_partsOf_2 cv_X13_258 (ci := 12) rfl rfl t0 rfl rfl (Nat.le_of_ble_eq_true rfl) (by omega) (kX13_isGlass (d - 1) (by omega) x0 x1 t0 v1 ev1) ?_
  refine r_if_ne 10 dX13_partsOf_5 (by decide) h (fun _ h => ?_) (fun _ h => ?_)
  · refine r_iconst (v := -1) dX13_partsOf_10 (by decide) ?_
    refine r_istore_n (lv' := [(2, .int (-1 : Int32)), (0, .ref (G.2.1 x0)), (1, .int x1)]) dX13_partsOf_11 (by decide) rfl ?_
    refine r_iconst (v := 0) dX13_partsOf_12 (by decide) ?_
    refine r_istore_n (lv' := [(3, .int (0 : Int32)), (2, .int (-1 : Int32)), (0, .ref (G.2.1 x0)), (1, .int x1)]) dX13_partsOf_13 (by decide) rfl ?_
    obtain ⟨b2, eb2, h⟩ := bd0_some h
    refine r_pick [2, 3, 1, 0] rfl ?_
    refine sX13_partsOf_L14 hdd x0 x1 t0 (K := fun b => b = b2) ?_ 1000 ((-1 : Int32), (0 : Int32), σ) b2 eb2 rfl
    rintro v3 τ4 rfl
    have h := un2_some h
    refine r_iload_n 0 dX13_partsOf_173 rfl ?_
    obtain rfl := Option.some.inj h
    exact r_ireturn dX13_partsOf_174 rfl hQ (Nat.le_refl _) (Nat.le_refl _)
  · refine r_iconst (v := -1) dX13_partsOf_8 (by decide) ?_
    obtain rfl := Option.some.inj h
    exact r_ireturn dX13_partsOf_9 rfl hQ (Nat.le_refl _) (Nat.le_refl _)
theorem kX13_parts {l : Launch} {G : gg} {Γ : ly} {σ : mm} (d : Nat) (hdd : 3 ≤ d) (x0 : Nat) (x1 : Int32) (t0 : tyOK Γ (0, 12) x0) (r : (Int32 × mm)) (h : fX13_parts Γ.2 σ x0 x1 = some r) : CT l G yX13_parts cX13_parts 2 (some .int) d 0 0 [.ref (G.2.1 x0), .int x1] Γ σ (PP (some (.int r.1)) Γ r.2) := by
  refine CT.ofWP (by decide) (Nat.le_of_ble_eq_true rfl) ?_
  have hQ : PP (some (.int r.1)) Γ r.2 (some (.int r.1)) Γ r.2 := PP.self
  generalize PP (some (.int r.1)) Γ r.2 = Q at hQ ⊢
  show WP l G yX13_parts cX13_parts 2 (some .int) d 0 0 Q 0 0 0 [(0, .ref (G.2.1 x0)), (1, .int x1)] [] Γ σ
  unfold fX13_parts at h
  refine r_aload_n 0 dX13_parts_0 rfl ?_
  refine r_iconst (v := 0) dX13_parts_1 (by decide) ?_
  refine q_putI dX13_parts_2 fd_X13_1 t0 h (fun τ1 h => ?_)
  refine r_aload_n 0 dX13_parts_5 rfl ?_
  refine r_iload_n 1 dX13_parts_6 rfl ?_
  obtain ⟨v2, τ3, ev2, h⟩ := bd2_some h
  refine q_cVI [.int x1] dX13_parts_7 cv_X13_358 (ci := 12) rfl rfl t0 rfl rfl (Nat.le_of_ble_eq_true rfl) (by omega) (kX13_partsOf (d - 1) (by omega) x0 x1 t0 (v2, τ3) ev2) ?_
  obtain rfl := Option.some.inj h
  exact r_ireturn dX13_parts_10 rfl hQ (Nat.le_refl _) (Nat.le_refl _)
theorem tX13_parted_b22 {l : Launch} {G : gg} {Γ : ly} {d : Nat} {Q : Option Value → ly → mm → Prop} (hdd : 3 ≤ d) (σ : mm)  (s0 : Int32)   (r : (Int32 × mm)) (h : fX13_parted_b22 Γ.2 σ s0 = some r) (hQ : Q (some (.int r.1)) Γ r.2) : WP l G yX13_parted cX13_parted 2 (some .int) d 0 0 Q 0 0 22 [] [.int s0] Γ σ := by
  unfold fX13_parted_b22 at h
  obtain rfl := Option.some.inj h
  exact r_ireturn dX13_parted_22 rfl hQ (Nat.le_refl _) (Nat.le_refl _)
theorem kX13_parted {l : Launch} {G : gg} {Γ : ly} {σ : mm} (d : Nat) (hdd : 3 ≤ d) (x0 : Nat) (x1 : Int32) (t0 : tyOK Γ (0, 12) x0) (r : (Int32 × mm)) (h : fX13_parted Γ.2 σ x0 x1 = some r) : CT l G yX13_parted cX13_parted 2 (some .int) d 0 0 [.ref (G.2.1 x0), .int x1] Γ σ (PP (some (.int r.1)) Γ r.2) := by
  refine CT.ofWP (by decide) (Nat.le_of_ble_eq_true rfl) ?_
  have hQ : PP (some (.int r.1)) Γ r.2 (some (.int r.1)) Γ r.2 := PP.self
  generalize PP (some (.int r.1)) Γ r.2 = Q at hQ ⊢
  show WP l G yX13_parted cX13_parted 2 (some .int) d 0 0 Q 0 0 0 [(0, .ref (G.2.1 x0)), (1, .int x1)] [] Γ σ
  unfold fX13_parted at h
  refine r_aload_n 0 dX13_parted_0 rfl ?_
  refine r_iconst (v := 0) dX13_parted_1 (by decide) ?_
  refine q_putI dX13_parted_2 fd_X13_1 t0 h (fun τ1 h => ?_)
  refine r_aload_n 0 dX13_parted_5 rfl ?_
  refine r_iload_n 1 dX13_parted_6 rfl ?_
  obtain ⟨v2, τ3, ev2, h⟩ := bd2_some h
  refine q_cVI [.int x1] dX13_parted_7 cv_X13_358 (ci := 12) rfl rfl t0 rfl rfl (Nat.le_of_ble_eq_true rfl) (by omega) (kX13_partsOf (d - 1) (by omega) x0 x1 t0 (v2, τ3) ev2) ?_
  refine r_iconst (v := -1) dX13_parted_10 (by decide) ?_
  refine r_icmp_ne 18 dX13_parted_11 (by decide) h (fun _ h => ?_) (fun _ h => ?_)
  · refine r_aload_n 0 dX13_parted_18 rfl ?_
    refine r_getI dX13_parted_19 fd_X13_355 t0 ?_
    refine r_pick [] rfl ?_
    exact tX13_parted_b22 hdd τ3 (τ3.1 x0 30)  _ h hQ
  · refine r_iconst (v := -1) dX13_parted_14 (by decide) ?_
    refine r_goto 22 dX13_parted_15 (by decide) ?_
    refine r_pick [] rfl ?_
    exact tX13_parted_b22 hdd τ3 (-1 : Int32)  _ h hQ
theorem kX13_good {l : Launch} {G : gg} {Γ : ly} {σ : mm} (d : Nat) (hdd : 1 ≤ d) (x0 : Nat) (x1 : Int32) (x2 : Int32) (t0 : tyOK Γ (0, 12) x0) (r : (Int32 × mm)) (h : fX13_good Γ.2 σ x0 x1 x2 = some r) : CT l G yX13_good cX13_good 3 (some .int) d 0 0 [.ref (G.2.1 x0), .int x1, .int x2] Γ σ (PP (some (.int r.1)) Γ r.2) := by
  refine CT.ofWP (by decide) (Nat.le_of_ble_eq_true rfl) ?_
  have hQ : PP (some (.int r.1)) Γ r.2 (some (.int r.1)) Γ r.2 := PP.self
  generalize PP (some (.int r.1)) Γ r.2 = Q at hQ ⊢
  show WP l G yX13_good cX13_good 3 (some .int) d 0 0 Q 0 0 0 [(0, .ref (G.2.1 x0)), (1, .int x1), (2, .int x2)] [] Γ σ
  unfold fX13_good at h
  refine r_aload_n 0 dX13_good_0 rfl ?_
  refine r_iconst (v := 0) dX13_good_1 (by decide) ?_
  refine q_putI dX13_good_2 fd_X13_1 t0 h (fun τ1 h => ?_)
  refine r_iload_n 1 dX13_good_5 rfl ?_
  refine r_iconst (v := 0) dX13_good_6 (by decide) ?_
  refine r_aload_n 0 dX13_good_7 rfl ?_
  refine q_getR (e9 := (1, 0)) dX13_good_8 fd_X13_98 t0 rfl h (fun r2 tr2 h => ?_)
  refine r_iconst (v := 2) dX13_good_11 (by decide) ?_
  refine q_iald dX13_good_12 tr2 h (fun v3 h => ?_)
  refine r_iconst (v := 1) dX13_good_13 (by decide) ?_
  refine r_isub dX13_good_14 ?_
  obtain ⟨v4, ev4, h⟩ := bd0_some h
  refine q_cSI [.int x1, .int (0 : Int32), .int (v3 - (1 : Int32))] dX13_good_15 cs_X13_75 rfl rfl (Nat.le_of_ble_eq_true rfl) (by omega) (kX13_isIn (d - 1) (by omega) x1 (0 : Int32) (v3 - (1 : Int32))  v4 ev4) ?_
  refine r_if_ne 23 dX13_good_18 (by decide) h (fun _ h => ?_) (fun _ h => ?_)
  · refine r_iload_n 2 dX13_good_23 rfl ?_
    rcases if_split h with ⟨q9, h⟩ | ⟨n0, h⟩
    · refine r_table (0 : Int32) 28 52 dX13_good_24 q9 (by decide) (by decide) rfl (by decide) ?_
      refine r_aload_n 0 dX13_good_52 rfl ?_
      refine q_getR (e9 := (1, 0)) dX13_good_53 fd_X13_98 t0 rfl h (fun r5 tr5 h => ?_)
      refine r_bipush (v := 84) dX13_good_56 (by decide) ?_
      refine r_iload_n 1 dX13_good_58 rfl ?_
      refine r_iadd dX13_good_59 ?_
      refine q_iald dX13_good_60 tr5 h (fun v6 h => ?_)
      obtain rfl := Option.some.inj h
      exact r_ireturn dX13_good_61 rfl hQ (Nat.le_refl _) (Nat.le_refl _)
    rcases if_split h with ⟨q9, h⟩ | ⟨n1, h⟩
    · refine r_table (1 : Int32) 38 62 dX13_good_24 q9 (by decide) (by decide) rfl (by decide) ?_
      refine r_aload_n 0 dX13_good_62 rfl ?_
      refine q_getR (e9 := (1, 0)) dX13_good_63 fd_X13_98 t0 rfl h (fun r7 tr7 h => ?_)
      refine r_bipush (v := 90) dX13_good_66 (by decide) ?_
      refine r_iload_n 1 dX13_good_68 rfl ?_
      refine r_iadd dX13_good_69 ?_
      refine q_iald dX13_good_70 tr7 h (fun v8 h => ?_)
      obtain rfl := Option.some.inj h
      exact r_ireturn dX13_good_71 rfl hQ (Nat.le_refl _) (Nat.le_refl _)
    rcases if_split h with ⟨q9, h⟩ | ⟨n2, h⟩
    · refine r_table (2 : Int32) 48 72 dX13_good_24 q9 (by decide) (by decide) rfl (by decide) ?_
      refine r_aload_n 0 dX13_good_72 rfl ?_
      refine q_getR (e9 := (1, 0)) dX13_good_73 fd_X13_98 t0 rfl h (fun r9 tr9 h => ?_)
      refine r_bipush (v := 96) dX13_good_76 (by decide) ?_
      refine r_iload_n 1 dX13_good_78 rfl ?_
      refine r_iadd dX13_good_79 ?_
      refine q_iald dX13_good_80 tr9 h (fun v10 h => ?_)
      obtain rfl := Option.some.inj h
      exact r_ireturn dX13_good_81 rfl hQ (Nat.le_refl _) (Nat.le_refl _)
    have n0 := ne_int n0 (z := 0) rfl
    have n1 := ne_int n1 (z := 1) rfl
    have n2 := ne_int n2 (z := 2) rfl
    refine r_tableD 82 dX13_good_24 (by omega) (by decide) ?_
    refine r_iconst (v := -1) dX13_good_82 (by decide) ?_
    obtain rfl := Option.some.inj h
    exact r_ireturn dX13_good_83 rfl hQ (Nat.le_refl _) (Nat.le_refl _)
  · refine r_iconst (v := -1) dX13_good_21 (by decide) ?_
    obtain rfl := Option.some.inj h
    exact r_ireturn dX13_good_22 rfl hQ (Nat.le_refl _) (Nat.le_refl _)
theorem tX13_rings_b31 {l : Launch} {G : gg} {Γ : ly} {d : Nat} {Q : Option Value → ly → mm → Prop} (hdd : 3 ≤ d) (σ : mm)     (r : (Int32 × mm)) (h : fX13_rings_b31 Γ.2 σ  = some r) (hQ : Q (some (.int r.1)) Γ r.2) : WP l G yX13_rings cX13_rings 7 (some .int) d 0 0 Q 0 0 31 [] [] Γ σ := by
  unfold fX13_rings_b31 at h
  refine r_iconst (v := -1) dX13_rings_31 (by decide) ?_
  obtain rfl := Option.some.inj h
  exact r_ireturn dX13_rings_32 rfl hQ (Nat.le_refl _) (Nat.le_refl _)
theorem sX13_rings_L78 {l : Launch} {G : gg} {Γ : ly} {d : Nat} {Q : Option Value → ly → mm → Prop} (hdd : 3 ≤ d) (σ : mm) (x0 : Nat) (x1 : Int32) (x3 : Int32) (x4 : Int32) (t0 : tyOK Γ (0, 12) x0) {K : Int32 → Prop} (kx0 : ∀ (x5 : Int32), K x5 → WP l G yX13_rings cX13_rings 7 (some .int) d 0 0 Q 0 0 113 [(0, .ref (G.2.1 x0)), (1, .int x1), (3, .int x3), (4, .int x4), (5, .int x5)] [] Γ σ) : ∀ (N : Nat) (s : (Int32 × Int32)) (b : Int32), loopN (fX13_rings_L78 Γ.2 σ x0 x1 x3 x4) N s = some b → K b → WP l G yX13_rings cX13_rings 7 (some .int) d 0 0 Q 0 0 78 [(0, .ref (G.2.1 x0)), (1, .int x1), (3, .int x3), (4, .int x4), (5, .int s.1), (6, .int s.2)] [] Γ σ := by
  refine r_loop (f := fX13_rings_L78 Γ.2 σ x0 x1 x3 x4) (hlv := fun s => [(0, .ref (G.2.1 x0)), (1, .int x1), (3, .int x3), (4, .int x4), (5, .int s.1), (6, .int s.2)]) (hsg := fun s => σ) ?_
  rintro ⟨x5, x6⟩ r h hb hx
  have hb : ∀ (x5 : Int32) (x6 : Int32), r = .inl (x5, x6) → WP l G yX13_rings cX13_rings 7 (some .int) d 0 0 Q 0 0 78 [(0, .ref (G.2.1 x0)), (1, .int x1), (3, .int x3), (4, .int x4), (5, .int x5), (6, .int x6)] [] Γ σ := fun x5 x6 e => hb (x5, x6) e
  have hx0 : ∀ (x5 : Int32), r = .inr x5 → WP l G yX13_rings cX13_rings 7 (some .int) d 0 0 Q 0 0 113 [(0, .ref (G.2.1 x0)), (1, .int x1), (3, .int x3), (4, .int x4), (5, .int x5)] [] Γ σ := fun x5 e => kx0 x5 (hx _ e)
  unfold fX13_rings_L78 at h
  have h := un2_some h
  show WP l G yX13_rings cX13_rings 7 (some .int) d 0 0 Q 0 0 78 [(0, .ref (G.2.1 x0)), (1, .int x1), (3, .int x3), (4, .int x4), (5, .int x5), (6, .int x6)] [] Γ σ
  refine r_iload 5 dX13_rings_78 rfl ?_
  refine r_aload_n 0 dX13_rings_80 rfl ?_
  refine q_getR (e9 := (1, 0)) dX13_rings_81 fd_X13_98 t0 rfl h (fun r1 tr1 h => ?_)
  refine r_bipush (v := 102) dX13_rings_84 (by decide) ?_
  refine q_iald dX13_rings_86 tr1 h (fun v2 h => ?_)
  refine r_icmp_ge 113 dX13_rings_87 (by decide) h (fun _ h => ?_) (fun _ h => ?_)
  · obtain rfl := Option.some.inj h
    refine r_pick [0, 1, 2, 3, 4] rfl ?_
    exact hx0 _ rfl
  · refine r_iload 4 dX13_rings_90 rfl ?_
    refine r_iload 4 dX13_rings_92 rfl ?_
    refine r_aload_n 0 dX13_rings_94 rfl ?_
    refine r_iload_n 1 dX13_rings_95 rfl ?_
    refine r_iload 5 dX13_rings_96 rfl ?_
    obtain ⟨v3, ev3, h⟩ := bd0_some h
    refine q_cVI [.int x1, .int x6] dX13_rings_98 cv_X13_264 (ci := 12) rfl rfl t0 rfl rfl (Nat.le_of_ble_eq_true rfl) (by omega) (kX13_runs (d - 1) (by omega) x0 x1 x6 t0 v3 ev3) ?_
    obtain ⟨v4, ev4, h⟩ := bd0_some h
    refine q_cSI [.int x5, .int v3] dX13_rings_101 cs_X13_227 rfl rfl (Nat.le_of_ble_eq_true rfl) (by omega) (kX13_least (d - 1) (by omega) x5 v3  v4 ev4) ?_
    refine r_isub dX13_rings_104 ?_
    refine q_nmI h (fun v5 h => ?_)
    refine r_istore (lv' := [(5, .int v5), (0, .ref (G.2.1 x0)), (1, .int x1), (3, .int x3), (4, .int x4), (6, .int x6)]) dX13_rings_105 (by decide) rfl ?_
    refine q_iinc (v := 1) 5 (fun v6 => [(6, .int v6), (5, .int v5), (0, .ref (G.2.1 x0)), (1, .int x1), (3, .int x3), (4, .int x4)]) dX13_rings_107 rfl (by decide) (by decide) (fun _ => rfl) h (fun v6 h => ?_)
    refine r_goto 78 dX13_rings_110 (by decide) ?_
    obtain rfl := Option.some.inj h
    refine r_pick [2, 3, 4, 5, 1, 0] rfl ?_
    exact hb _ _ rfl
theorem tX13_rings_b131 {l : Launch} {G : gg} {Γ : ly} {d : Nat} {Q : Option Value → ly → mm → Prop} (hdd : 3 ≤ d) (σ : mm) (x0 : Nat) (x1 : Int32) (x3 : Int32) (x4 : Int32)  (t0 : tyOK Γ (0, 12) x0)  (r : ((Int32 × Int32) ⊕ Int32)) (h : fX13_rings_b131 Γ.2 σ x0 x1 x3 x4 = some r) (hb : ∀ (x3 : Int32) (x4 : Int32), r = .inl (x3, x4) → WP l G yX13_rings cX13_rings 7 (some .int) d 0 0 Q 0 0 38 [(0, .ref (G.2.1 x0)), (1, .int x1), (3, .int x3), (4, .int x4)] [] Γ σ) (hx0 : ∀ (x3 : Int32), r = .inr x3 → WP l G yX13_rings cX13_rings 7 (some .int) d 0 0 Q 0 0 137 [(3, .int x3)] [] Γ σ) : WP l G yX13_rings cX13_rings 7 (some .int) d 0 0 Q 0 0 131 [(0, .ref (G.2.1 x0)), (1, .int x1), (3, .int x3), (4, .int x4)] [] Γ σ := by
  unfold fX13_rings_b131 at h
  refine q_iinc (v := 1) 3 (fun v1 => [(4, .int v1), (0, .ref (G.2.1 x0)), (1, .int x1), (3, .int x3)]) dX13_rings_131 rfl (by decide) (by decide) (fun _ => rfl) h (fun v1 h => ?_)
  refine r_goto 38 dX13_rings_134 (by decide) ?_
  obtain rfl := Option.some.inj h
  refine r_pick [1, 2, 3, 0] rfl ?_
  exact hb _ _ rfl
theorem sX13_rings_L38 {l : Launch} {G : gg} {Γ : ly} {d : Nat} {Q : Option Value → ly → mm → Prop} (hdd : 3 ≤ d) (σ : mm) (x0 : Nat) (x1 : Int32) (t0 : tyOK Γ (0, 12) x0) {K : Int32 → Prop} (kx0 : ∀ (x3 : Int32), K x3 → WP l G yX13_rings cX13_rings 7 (some .int) d 0 0 Q 0 0 137 [(3, .int x3)] [] Γ σ) : ∀ (N : Nat) (s : (Int32 × Int32)) (b : Int32), loopN (fX13_rings_L38 Γ.2 σ x0 x1) N s = some b → K b → WP l G yX13_rings cX13_rings 7 (some .int) d 0 0 Q 0 0 38 [(0, .ref (G.2.1 x0)), (1, .int x1), (3, .int s.1), (4, .int s.2)] [] Γ σ := by
  refine r_loop (f := fX13_rings_L38 Γ.2 σ x0 x1) (hlv := fun s => [(0, .ref (G.2.1 x0)), (1, .int x1), (3, .int s.1), (4, .int s.2)]) (hsg := fun s => σ) ?_
  rintro ⟨x3, x4⟩ r h hb hx
  have hb : ∀ (x3 : Int32) (x4 : Int32), r = .inl (x3, x4) → WP l G yX13_rings cX13_rings 7 (some .int) d 0 0 Q 0 0 38 [(0, .ref (G.2.1 x0)), (1, .int x1), (3, .int x3), (4, .int x4)] [] Γ σ := fun x3 x4 e => hb (x3, x4) e
  have hx0 : ∀ (x3 : Int32), r = .inr x3 → WP l G yX13_rings cX13_rings 7 (some .int) d 0 0 Q 0 0 137 [(3, .int x3)] [] Γ σ := fun x3 e => kx0 x3 (hx _ e)
  unfold fX13_rings_L38 at h
  have h := un2_some h
  show WP l G yX13_rings cX13_rings 7 (some .int) d 0 0 Q 0 0 38 [(0, .ref (G.2.1 x0)), (1, .int x1), (3, .int x3), (4, .int x4)] [] Γ σ
  refine r_iload 3 dX13_rings_38 rfl ?_
  refine r_bipush (v := 24) dX13_rings_40 (by decide) ?_
  refine r_aload_n 0 dX13_rings_42 rfl ?_
  refine q_getR (e9 := (1, 0)) dX13_rings_43 fd_X13_98 t0 rfl h (fun r1 tr1 h => ?_)
  refine r_bipush (v := 102) dX13_rings_46 (by decide) ?_
  refine q_iald dX13_rings_48 tr1 h (fun v2 h => ?_)
  obtain ⟨v3, ev3, h⟩ := bd0_some h
  refine q_cSI [.int (24 : Int32), .int v2] dX13_rings_49 cs_X13_227 rfl rfl (Nat.le_of_ble_eq_true rfl) (by omega) (kX13_least (d - 1) (by omega) (24 : Int32) v2  v3 ev3) ?_
  refine r_icmp_gt 137 dX13_rings_52 (by decide) h (fun _ h => ?_) (fun _ h => ?_)
  · obtain rfl := Option.some.inj h
    refine r_pick [2] rfl ?_
    exact hx0 _ rfl
  · refine r_aload_n 0 dX13_rings_55 rfl ?_
    refine q_getR (e9 := (1, 0)) dX13_rings_56 fd_X13_98 t0 rfl h (fun r4 tr4 h => ?_)
    refine r_bipush (v := 64) dX13_rings_59 (by decide) ?_
    refine r_iload_n 1 dX13_rings_61 rfl ?_
    refine r_iadd dX13_rings_62 ?_
    refine q_iald dX13_rings_63 tr4 h (fun v5 h => ?_)
    refine r_istore (lv' := [(5, .int v5), (0, .ref (G.2.1 x0)), (1, .int x1), (3, .int x3), (4, .int x4)]) dX13_rings_64 (by decide) rfl ?_
    refine r_aload_n 1 dX13_rings_66 rfl ?_
    refine q_getR (e9 := (1, 0)) dX13_rings_67 fd_X13_98 t0 rfl h (fun r6 tr6 h => ?_)
    refine r_bipush (v := 102) dX13_rings_70 (by decide) ?_
    refine q_iald dX13_rings_72 tr6 h (fun v7 h => ?_)
    refine r_iload 4 dX13_rings_73 rfl ?_
    refine r_isub dX13_rings_75 ?_
    refine q_nmI h (fun v8 h => ?_)
    refine r_istore (lv' := [(6, .int v8), (5, .int v5), (0, .ref (G.2.1 x0)), (1, .int x1), (3, .int x3), (4, .int x4)]) dX13_rings_76 (by decide) rfl ?_
    obtain ⟨b9, eb9, h⟩ := bd0_some h
    refine r_pick [2, 3, 4, 5, 1, 0] rfl ?_
    refine sX13_rings_L78 hdd σ x0 x1 x3 x4 t0 (K := fun b => b = b9) ?_ 1000 (v5, v8) b9 eb9 rfl
    rintro v10 rfl
    refine r_iload 4 dX13_rings_113 rfl ?_
    refine r_aload_n 0 dX13_rings_115 rfl ?_
    refine q_getR (e9 := (1, 0)) dX13_rings_116 fd_X13_7 t0 rfl h (fun r11 tr11 h => ?_)
    refine r_iconst (v := 0) dX13_rings_119 (by decide) ?_
    refine q_iald dX13_rings_120 tr11 h (fun v12 h => ?_)
    refine r_icmp_ne 131 dX13_rings_121 (by decide) h (fun _ h => ?_) (fun _ h => ?_)
    · refine r_pick [0, 1, 2, 3] rfl ?_
      exact tX13_rings_b131 hdd σ x0 x1 x3 x4 t0 _ h hb hx0
    · refine r_iload_n 2 dX13_rings_124 rfl ?_
      refine r_iconst (v := 1) dX13_rings_125 (by decide) ?_
      refine r_iload 3 dX13_rings_126 rfl ?_
      refine r_ishl dX13_rings_128 ?_
      refine r_ior dX13_rings_129 ?_
      refine q_nmI h (fun v13 h => ?_)
      refine r_istore_n (lv' := [(3, .int v13), (0, .ref (G.2.1 x0)), (1, .int x1), (4, .int x4), (5, .int v10)]) dX13_rings_130 (by decide) rfl ?_
      refine r_pick [1, 2, 0, 3] rfl ?_
      exact tX13_rings_b131 hdd σ x0 x1 v13 x4 t0 _ h hb hx0
theorem kX13_rings {l : Launch} {G : gg} {Γ : ly} {σ : mm} (d : Nat) (hdd : 3 ≤ d) (x0 : Nat) (x1 : Int32) (t0 : tyOK Γ (0, 12) x0) (r : (Int32 × mm)) (h : fX13_rings Γ.2 σ x0 x1 = some r) : CT l G yX13_rings cX13_rings 7 (some .int) d 0 0 [.ref (G.2.1 x0), .int x1] Γ σ (PP (some (.int r.1)) Γ r.2) := by
  refine CT.ofWP (by decide) (Nat.le_of_ble_eq_true rfl) ?_
  have hQ : PP (some (.int r.1)) Γ r.2 (some (.int r.1)) Γ r.2 := PP.self
  generalize PP (some (.int r.1)) Γ r.2 = Q at hQ ⊢
  show WP l G yX13_rings cX13_rings 7 (some .int) d 0 0 Q 0 0 0 [(0, .ref (G.2.1 x0)), (1, .int x1)] [] Γ σ
  unfold fX13_rings at h
  refine r_aload_n 0 dX13_rings_0 rfl ?_
  refine r_iconst (v := 0) dX13_rings_1 (by decide) ?_
  refine q_putI dX13_rings_2 fd_X13_1 t0 h (fun τ1 h => ?_)
  refine r_aload_n 0 dX13_rings_5 rfl ?_
  obtain ⟨v2, τ3, ev2, h⟩ := bd2_some h
  refine q_cVI [] dX13_rings_6 cv_X13_89 (ci := 12) rfl rfl t0 rfl rfl (Nat.le_of_ble_eq_true rfl) (by omega) (kX13_take (d - 1) (by omega) x0 t0 (v2, τ3) ev2) ?_
  refine r_istore_n (lv' := [(2, .int v2), (0, .ref (G.2.1 x0)), (1, .int x1)]) dX13_rings_9 (by decide) rfl ?_
  refine r_iload_n 0 dX13_rings_10 rfl ?_
  refine r_iconst (v := 1) dX13_rings_11 (by decide) ?_
  refine r_icmp_ne 31 dX13_rings_12 (by decide) h (fun _ h => ?_) (fun _ h => ?_)
  · refine r_pick [] rfl ?_
    exact tX13_rings_b31 hdd τ3  _ h hQ
  · refine r_aload_n 1 dX13_rings_15 rfl ?_
    refine r_iload_n 2 dX13_rings_16 rfl ?_
    obtain ⟨v4, ev4, h⟩ := bd0_some h
    refine q_cVI [.int x1] dX13_rings_17 cv_X13_258 (ci := 12) rfl rfl t0 rfl rfl (Nat.le_of_ble_eq_true rfl) (by omega) (kX13_isGlass (d - 1) (by omega) x0 x1 t0 v4 ev4) ?_
    refine r_if_eq 31 dX13_rings_20 (by decide) h (fun _ h => ?_) (fun _ h => ?_)
    · refine r_pick [] rfl ?_
      exact tX13_rings_b31 hdd τ3  _ h hQ
    · refine r_aload_n 1 dX13_rings_23 rfl ?_
      refine r_iload_n 2 dX13_rings_24 rfl ?_
      obtain ⟨v5, ev5, h⟩ := bd0_some h
      refine q_cVI [.int x1] dX13_rings_25 cv_X13_261 (ci := 12) rfl rfl t0 rfl rfl (Nat.le_of_ble_eq_true rfl) (by omega) (kX13_isLapsed (d - 1) (by omega) x0 x1 t0 v5 ev5) ?_
      refine r_if_eq 33 dX13_rings_28 (by decide) h (fun _ h => ?_) (fun _ h => ?_)
      · refine r_iconst (v := 0) dX13_rings_33 (by decide) ?_
        refine r_istore_n (lv' := [(3, .int (0 : Int32)), (2, .int v2), (0, .ref (G.2.1 x0)), (1, .int x1)]) dX13_rings_34 (by decide) rfl ?_
        refine r_iconst (v := 0) dX13_rings_35 (by decide) ?_
        refine r_istore (lv' := [(4, .int (0 : Int32)), (3, .int (0 : Int32)), (2, .int v2), (0, .ref (G.2.1 x0)), (1, .int x1)]) dX13_rings_36 (by decide) rfl ?_
        obtain ⟨b6, eb6, h⟩ := bd0_some h
        refine r_pick [3, 4, 1, 0] rfl ?_
        refine sX13_rings_L38 hdd τ3 x0 x1 t0 (K := fun b => b = b6) ?_ 1000 ((0 : Int32), (0 : Int32)) b6 eb6 rfl
        rintro v7 rfl
        refine r_iload_n 0 dX13_rings_137 rfl ?_
        obtain rfl := Option.some.inj h
        exact r_ireturn dX13_rings_138 rfl hQ (Nat.le_refl _) (Nat.le_refl _)
      · refine r_pick [] rfl ?_
        exact tX13_rings_b31 hdd τ3  _ h hQ
theorem tX13_together_b23 {l : Launch} {G : gg} {Γ : ly} {d : Nat} {Q : Option Value → ly → mm → Prop} (hdd : 2 ≤ d) (σ : mm)     (r : (Int32 × mm)) (h : fX13_together_b23 Γ.2 σ  = some r) (hQ : Q (some (.int r.1)) Γ r.2) : WP l G yX13_together cX13_together 5 (some .int) d 0 0 Q 0 0 23 [] [] Γ σ := by
  unfold fX13_together_b23 at h
  refine r_iconst (v := -1) dX13_together_23 (by decide) ?_
  obtain rfl := Option.some.inj h
  exact r_ireturn dX13_together_24 rfl hQ (Nat.le_refl _) (Nat.le_refl _)
theorem tX13_together_b95 {l : Launch} {G : gg} {Γ : ly} {d : Nat} {Q : Option Value → ly → mm → Prop} (hdd : 2 ≤ d) (σ : mm) (x0 : Nat) (x1 : Int32) (x2 : Int32) (x3 : Int32) (x4 : Int32)  (t0 : tyOK Γ (0, 12) x0)  (r : ((Int32 × Int32) ⊕ Int32)) (h : fX13_together_b95 Γ.2 σ x0 x1 x2 x3 x4 = some r) (hb : ∀ (x3 : Int32) (x4 : Int32), r = .inl (x3, x4) → WP l G yX13_together cX13_together 5 (some .int) d 0 0 Q 0 0 36 [(0, .ref (G.2.1 x0)), (1, .int x1), (2, .int x2), (3, .int x3), (4, .int x4)] [] Γ σ) (hx0 : ∀ (x3 : Int32), r = .inr x3 → WP l G yX13_together cX13_together 5 (some .int) d 0 0 Q 0 0 101 [(3, .int x3)] [] Γ σ) : WP l G yX13_together cX13_together 5 (some .int) d 0 0 Q 0 0 95 [(0, .ref (G.2.1 x0)), (1, .int x1), (2, .int x2), (3, .int x3), (4, .int x4)] [] Γ σ := by
  unfold fX13_together_b95 at h
  refine q_iinc (v := 1) 4 (fun v1 => [(4, .int v1), (0, .ref (G.2.1 x0)), (1, .int x1), (2, .int x2), (3, .int x3)]) dX13_together_95 rfl (by decide) (by decide) (fun _ => rfl) h (fun v1 h => ?_)
  refine r_goto 36 dX13_together_98 (by decide) ?_
  obtain rfl := Option.some.inj h
  refine r_pick [1, 2, 3, 4, 0] rfl ?_
  exact hb _ _ rfl
theorem sX13_together_L36 {l : Launch} {G : gg} {Γ : ly} {d : Nat} {Q : Option Value → ly → mm → Prop} (hdd : 2 ≤ d) (σ : mm) (x0 : Nat) (x1 : Int32) (x2 : Int32) (t0 : tyOK Γ (0, 12) x0) {K : Int32 → Prop} (kx0 : ∀ (x3 : Int32), K x3 → WP l G yX13_together cX13_together 5 (some .int) d 0 0 Q 0 0 101 [(3, .int x3)] [] Γ σ) : ∀ (N : Nat) (s : (Int32 × Int32)) (b : Int32), loopN (fX13_together_L36 Γ.2 σ x0 x1 x2) N s = some b → K b → WP l G yX13_together cX13_together 5 (some .int) d 0 0 Q 0 0 36 [(0, .ref (G.2.1 x0)), (1, .int x1), (2, .int x2), (3, .int s.1), (4, .int s.2)] [] Γ σ := by
  refine r_loop (f := fX13_together_L36 Γ.2 σ x0 x1 x2) (hlv := fun s => [(0, .ref (G.2.1 x0)), (1, .int x1), (2, .int x2), (3, .int s.1), (4, .int s.2)]) (hsg := fun s => σ) ?_
  rintro ⟨x3, x4⟩ r h hb hx
  have hb : ∀ (x3 : Int32) (x4 : Int32), r = .inl (x3, x4) → WP l G yX13_together cX13_together 5 (some .int) d 0 0 Q 0 0 36 [(0, .ref (G.2.1 x0)), (1, .int x1), (2, .int x2), (3, .int x3), (4, .int x4)] [] Γ σ := fun x3 x4 e => hb (x3, x4) e
  have hx0 : ∀ (x3 : Int32), r = .inr x3 → WP l G yX13_together cX13_together 5 (some .int) d 0 0 Q 0 0 101 [(3, .int x3)] [] Γ σ := fun x3 e => kx0 x3 (hx _ e)
  unfold fX13_together_L36 at h
  have h := un2_some h
  show WP l G yX13_together cX13_together 5 (some .int) d 0 0 Q 0 0 36 [(0, .ref (G.2.1 x0)), (1, .int x1), (2, .int x2), (3, .int x3), (4, .int x4)] [] Γ σ
  refine r_iload 4 dX13_together_36 rfl ?_
  refine r_sipush (v := 600) dX13_together_38 (by decide) ?_
  refine r_aload_n 0 dX13_together_41 rfl ?_
  refine q_getR (e9 := (1, 0)) dX13_together_42 fd_X13_98 t0 rfl h (fun r1 tr1 h => ?_)
  refine r_bipush (v := 102) dX13_together_45 (by decide) ?_
  refine q_iald dX13_together_47 tr1 h (fun v2 h => ?_)
  refine r_iload_n 2 dX13_together_48 rfl ?_
  refine r_iadd dX13_together_49 ?_
  obtain ⟨v3, ev3, h⟩ := bd0_some h
  refine q_cSI [.int (600 : Int32), .int (v2 + x2)] dX13_together_50 cs_X13_227 rfl rfl (Nat.le_of_ble_eq_true rfl) (by omega) (kX13_least (d - 1) (by omega) (600 : Int32) (v2 + x2)  v3 ev3) ?_
  refine r_icmp_ge 101 dX13_together_53 (by decide) h (fun _ h => ?_) (fun _ h => ?_)
  · obtain rfl := Option.some.inj h
    refine r_pick [3] rfl ?_
    exact hx0 _ rfl
  · refine r_aload_n 0 dX13_together_56 rfl ?_
    refine r_aload_n 0 dX13_together_57 rfl ?_
    refine q_getR (e9 := (1, 0)) dX13_together_58 fd_X13_98 t0 rfl h (fun r4 tr4 h => ?_)
    refine r_bipush (v := 56) dX13_together_61 (by decide) ?_
    refine r_iload_n 1 dX13_together_63 rfl ?_
    refine r_iadd dX13_together_64 ?_
    refine q_iald dX13_together_65 tr4 h (fun v5 h => ?_)
    refine r_iload 4 dX13_together_66 rfl ?_
    obtain ⟨v6, ev6, h⟩ := bd0_some h
    refine q_cVI [.int v5, .int x4] dX13_together_68 cv_X13_224 (ci := 12) rfl rfl t0 rfl rfl (Nat.le_of_ble_eq_true rfl) (by omega) (kX13_isUp (d - 1) (by omega) x0 v5 x4 t0 v6 ev6) ?_
    refine r_if_eq 95 dX13_together_71 (by decide) h (fun _ h => ?_) (fun _ h => ?_)
    · exact tX13_together_b95 hdd σ x0 x1 x2 x3 x4 t0 _ h hb hx0
    · refine r_aload_n 0 dX13_together_74 rfl ?_
      refine r_aload_n 0 dX13_together_75 rfl ?_
      refine q_getR (e9 := (1, 0)) dX13_together_76 fd_X13_98 t0 rfl h (fun r7 tr7 h => ?_)
      refine r_bipush (v := 60) dX13_together_79 (by decide) ?_
      refine r_iload_n 1 dX13_together_81 rfl ?_
      refine r_iadd dX13_together_82 ?_
      refine q_iald dX13_together_83 tr7 h (fun v8 h => ?_)
      refine r_iload 4 dX13_together_84 rfl ?_
      obtain ⟨v9, ev9, h⟩ := bd0_some h
      refine q_cVI [.int v8, .int x4] dX13_together_86 cv_X13_224 (ci := 12) rfl rfl t0 rfl rfl (Nat.le_of_ble_eq_true rfl) (by omega) (kX13_isUp (d - 1) (by omega) x0 v8 x4 t0 v9 ev9) ?_
      refine r_if_eq 95 dX13_together_89 (by decide) h (fun _ h => ?_) (fun _ h => ?_)
      · exact tX13_together_b95 hdd σ x0 x1 x2 x3 x4 t0 _ h hb hx0
      · refine q_iinc (v := 1) 3 (fun v10 => [(3, .int v10), (0, .ref (G.2.1 x0)), (1, .int x1), (2, .int x2), (4, .int x4)]) dX13_together_92 rfl (by decide) (by decide) (fun _ => rfl) h (fun v10 h => ?_)
        refine r_pick [1, 2, 3, 0, 4] rfl ?_
        exact tX13_together_b95 hdd σ x0 x1 x2 v10 x4 t0 _ h hb hx0
theorem kX13_together {l : Launch} {G : gg} {Γ : ly} {σ : mm} (d : Nat) (hdd : 2 ≤ d) (x0 : Nat) (x1 : Int32) (x2 : Int32) (t0 : tyOK Γ (0, 12) x0) (r : (Int32 × mm)) (h : fX13_together Γ.2 σ x0 x1 x2 = some r) : CT l G yX13_together cX13_together 5 (some .int) d 0 0 [.ref (G.2.1 x0), .int x1, .int x2] Γ σ (PP (some (.int r.1)) Γ r.2) := by
  refine CT.ofWP (by decide) (Nat.le_of_ble_eq_true rfl) ?_
  have hQ : PP (some (.int r.1)) Γ r.2 (some (.int r.1)) Γ r.2 := PP.self
  generalize PP (some (.int r.1)) Γ r.2 = Q at hQ ⊢
  show WP l G yX13_together cX13_together 5 (some .int) d 0 0 Q 0 0 0 [(0, .ref (G.2.1 x0)), (1, .int x1), (2, .int x2)] [] Γ σ
  unfold fX13_together at h
  refine r_aload_n 0 dX13_together_0 rfl ?_
  refine r_iconst (v := 0) dX13_together_1 (by decide) ?_
  refine q_putI dX13_together_2 fd_X13_1 t0 h (fun τ1 h => ?_)
  refine r_aload_n 0 dX13_together_5 rfl ?_
  refine r_iload_n 1 dX13_together_6 rfl ?_
  obtain ⟨v2, ev2, h⟩ := bd0_some h
  refine q_cVI [.int x1] dX13_together_7 cv_X13_258 (ci := 12) rfl rfl t0 rfl rfl (Nat.le_of_ble_eq_true rfl) (by omega) (kX13_isGlass (d - 1) (by omega) x0 x1 t0 v2 ev2) ?_
  refine r_if_eq 23 dX13_together_10 (by decide) h (fun _ h => ?_) (fun _ h => ?_)
  · refine r_pick [] rfl ?_
    exact tX13_together_b23 hdd τ1  _ h hQ
  · refine r_iload_n 2 dX13_together_13 rfl ?_
    refine r_iconst (v := 1) dX13_together_14 (by decide) ?_
    refine r_bipush (v := 60) dX13_together_15 (by decide) ?_
    obtain ⟨v3, ev3, h⟩ := bd0_some h
    refine q_cSI [.int x2, .int (1 : Int32), .int (60 : Int32)] dX13_together_17 cs_X13_75 rfl rfl (Nat.le_of_ble_eq_true rfl) (by omega) (kX13_isIn (d - 1) (by omega) x2 (1 : Int32) (60 : Int32)  v3 ev3) ?_
    refine r_if_ne 25 dX13_together_20 (by decide) h (fun _ h => ?_) (fun _ h => ?_)
    · refine r_iconst (v := 0) dX13_together_25 (by decide) ?_
      refine r_istore_n (lv' := [(3, .int (0 : Int32)), (0, .ref (G.2.1 x0)), (1, .int x1), (2, .int x2)]) dX13_together_26 (by decide) rfl ?_
      refine r_aload_n 1 dX13_together_27 rfl ?_
      refine q_getR (e9 := (1, 0)) dX13_together_28 fd_X13_98 t0 rfl h (fun r4 tr4 h => ?_)
      refine r_bipush (v := 102) dX13_together_31 (by decide) ?_
      refine q_iald dX13_together_33 tr4 h (fun v5 h => ?_)
      refine r_istore (lv' := [(4, .int v5), (3, .int (0 : Int32)), (0, .ref (G.2.1 x0)), (1, .int x1), (2, .int x2)]) dX13_together_34 (by decide) rfl ?_
      obtain ⟨b6, eb6, h⟩ := bd0_some h
      refine r_pick [2, 3, 4, 1, 0] rfl ?_
      refine sX13_together_L36 hdd τ1 x0 x1 x2 t0 (K := fun b => b = b6) ?_ 1000 ((0 : Int32), v5) b6 eb6 rfl
      rintro v7 rfl
      refine r_iload_n 0 dX13_together_101 rfl ?_
      obtain rfl := Option.some.inj h
      exact r_ireturn dX13_together_102 rfl hQ (Nat.le_refl _) (Nat.le_refl _)
    · refine r_pick [] rfl ?_
      exact tX13_together_b23 hdd τ1  _ h hQ
theorem kX13_write {l : Launch} {G : gg} {Γ : ly} {σ : mm} (d : Nat) (hdd : 0 ≤ d) (x0 : Nat) (x1 : Int32) (t0 : tyOK Γ (0, 12) x0) (r : mm) (h : fX13_write Γ.2 σ x0 x1 = some r) : CT l G yX13_write cX13_write 2 (none) d 0 0 [.ref (G.2.1 x0), .int x1] Γ σ (PP none Γ r) := by
  refine CT.ofWP (by decide) (Nat.le_of_ble_eq_true rfl) ?_
  have hQ : PP none Γ r none Γ r := PP.self
  generalize PP none Γ r = Q at hQ ⊢
  show WP l G yX13_write cX13_write 2 (none) d 0 0 Q 0 0 0 [(0, .ref (G.2.1 x0)), (1, .int x1)] [] Γ σ
  unfold fX13_write at h
  refine r_aload_n 0 dX13_write_0 rfl ?_
  refine q_getR (e9 := (1, 0)) dX13_write_1 fd_X13_136 t0 rfl h (fun r1 tr1 h => ?_)
  refine r_aload_n 0 dX13_write_4 rfl ?_
  refine r_getI dX13_write_5 fd_X13_361 t0 ?_
  refine r_iload_n 1 dX13_write_8 rfl ?_
  refine q_iast dX13_write_9 tr1 h (fun τ2 h => ?_)
  refine r_aload_n 0 dX13_write_10 rfl ?_
  refine r_dup dX13_write_11 rfl ?_
  refine r_getI dX13_write_12 fd_X13_361 t0 ?_
  refine r_iconst (v := 1) dX13_write_15 (by decide) ?_
  refine r_iadd dX13_write_16 ?_
  refine q_putI dX13_write_17 fd_X13_361 t0 h (fun τ3 h => ?_)
  obtain rfl := Option.some.inj h
  exact r_return dX13_write_20 rfl hQ (Nat.le_refl _) (Nat.le_refl _)
theorem tX13_writeWord_b17 {l : Launch} {G : gg} {Γ : ly} {d : Nat} {Q : Option Value → ly → mm → Prop} (hdd : 1 ≤ d) {F : Nat → mm → Nat → Int64 → Option mm} {e : Nat} (hde : e + 1 ≤ d) (hF0 : ∀ (d : Nat), e ≤ d → ∀ (σ : mm) (x0 : Nat) (x1 : Int64), tyOK Γ (0, 12) x0 → ∀ r, F 0 σ x0 x1 = some r → CT l G yX13_writeWord cX13_writeWord 3 (none) d 0 0 [.ref (G.2.1 x0), .long x1] Γ σ (PP none Γ r)) (σ : mm) (x0 : Nat) (x1 : Int64)  (t0 : tyOK Γ (0, 12) x0)  (r : mm) (h : fX13_writeWord_b17 F Γ.2 σ x0 x1 = some r) (hQ : Q none Γ r) : WP l G yX13_writeWord cX13_writeWord 3 (none) d 0 0 Q 0 0 17 [(0, .ref (G.2.1 x0)), (1, .long x1)] [] Γ σ := by
  unfold fX13_writeWord_b17 at h
  refine r_aload_n 0 dX13_writeWord_17 rfl ?_
  refine r_bipush (v := 96) dX13_writeWord_18 (by decide) ?_
  refine r_lload_n 1 dX13_writeWord_20 rfl ?_
  refine r_ldc2 (v := 27) dX13_writeWord_21 kl_X13_54 ?_
  refine r_lrem dX13_writeWord_24 (by decide) ?_
  refine r_l2i dX13_writeWord_25 ?_
  refine r_iadd dX13_writeWord_26 ?_
  obtain ⟨τ1, eτ1, h⟩ := bd0_some h
  refine q_cVV [.int ((96 : Int32) + ((x1 - x1 / (27 : Int64) * (27 : Int64)).toInt32))] dX13_writeWord_27 cv_X13_368 (ci := 12) rfl rfl t0 rfl rfl (Nat.le_of_ble_eq_true rfl) (by omega) (kX13_write (d - 1) (by omega) x0 ((96 : Int32) + ((x1 - x1 / (27 : Int64) * (27 : Int64)).toInt32)) t0 τ1 eτ1) ?_
  obtain rfl := Option.some.inj h
  exact r_return dX13_writeWord_30 rfl hQ (Nat.le_refl _) (Nat.le_refl _)
theorem kX13_writeWord {l : Launch} {G : gg} {Γ : ly} {σ : mm} (d : Nat) (hdd : 1 ≤ d) {F : Nat → mm → Nat → Int64 → Option mm} {e : Nat} (hde : e + 1 ≤ d) (hF0 : ∀ (d : Nat), e ≤ d → ∀ (σ : mm) (x0 : Nat) (x1 : Int64), tyOK Γ (0, 12) x0 → ∀ r, F 0 σ x0 x1 = some r → CT l G yX13_writeWord cX13_writeWord 3 (none) d 0 0 [.ref (G.2.1 x0), .long x1] Γ σ (PP none Γ r)) (x0 : Nat) (x1 : Int64) (t0 : tyOK Γ (0, 12) x0) (r : mm) (h : fX13_writeWord F Γ.2 σ x0 x1 = some r) : CT l G yX13_writeWord cX13_writeWord 3 (none) d 0 0 [.ref (G.2.1 x0), .long x1] Γ σ (PP none Γ r) := by
  refine CT.ofWP (by decide) (Nat.le_of_ble_eq_true rfl) ?_
  have hQ : PP none Γ r none Γ r := PP.self
  generalize PP none Γ r = Q at hQ ⊢
  show WP l G yX13_writeWord cX13_writeWord 3 (none) d 0 0 Q 0 0 0 [(0, .ref (G.2.1 x0)), (1, .long x1)] [] Γ σ
  unfold fX13_writeWord at h
  refine r_lload_n 1 dX13_writeWord_0 rfl ?_
  refine r_ldc2 (v := 27) dX13_writeWord_1 kl_X13_54 ?_
  refine r_lcmp dX13_writeWord_4 ?_
  refine r_if_lt 17 dX13_writeWord_5 (by decide) h (fun _ h => ?_) (fun _ h => ?_)
  · exact tX13_writeWord_b17 hdd hde hF0 σ x0 x1 t0 _ h hQ
  · refine r_aload_n 0 dX13_writeWord_8 rfl ?_
    refine r_lload_n 1 dX13_writeWord_9 rfl ?_
    refine r_ldc2 (v := 27) dX13_writeWord_10 kl_X13_54 ?_
    refine r_ldiv dX13_writeWord_13 (by decide) ?_
    obtain ⟨τ1, eτ1, h⟩ := bd0_some h
    refine q_cVV [.long (x1 / (27 : Int64))] dX13_writeWord_14 cv_X13_364 (ci := 12) rfl rfl t0 rfl rfl (Nat.le_of_ble_eq_true rfl) (by omega) (hF0 (d - 1) (by omega) σ x0 (x1 / (27 : Int64)) t0 τ1 eτ1) ?_
    exact tX13_writeWord_b17 hdd hde hF0 τ1 x0 x1 t0 _ h hQ
theorem kallX13_writeWord {l : Launch} {G : gg} {Γ : ly} : ∀ n : Nat, (∀ (d : Nat), 1 + n ≤ d → ∀ (σ : mm) (x0 : Nat) (x1 : Int64), tyOK Γ (0, 12) x0 → ∀ r, gX13_writeWord Γ.2 n 0 σ x0 x1 = some r → CT l G yX13_writeWord cX13_writeWord 3 (none) d 0 0 [.ref (G.2.1 x0), .long x1] Γ σ (PP none Γ r)) := by
  intro n
  induction n with
  | zero => exact fun d _ σ _ _ _ r h => (nomatch h)
  | succ n ih =>
    have hF0 := ih
    refine ?_
    · intro d hd σ x0 x1 t0 r h
      exact kX13_writeWord (F := gX13_writeWord Γ.2 n) (e := 1 + n) d (by omega) (by omega) hF0 x0 x1 t0 r h
theorem kgX13_writeWord {l : Launch} {G : gg} {Γ : ly} (n : Nat) : ∀ (d : Nat), 1 + n ≤ d → ∀ (σ : mm) (x0 : Nat) (x1 : Int64), tyOK Γ (0, 12) x0 → ∀ r, gX13_writeWord Γ.2 n 0 σ x0 x1 = some r → CT l G yX13_writeWord cX13_writeWord 3 (none) d 0 0 [.ref (G.2.1 x0), .long x1] Γ σ (PP none Γ r) := (kallX13_writeWord n)
theorem tX13_writeNumber_b14 {l : Launch} {G : gg} {Γ : ly} {d : Nat} {Q : Option Value → ly → mm → Prop} (hdd : 1 ≤ d) {F : Nat → mm → Nat → Int32 → Option mm} {e : Nat} (hde : e + 1 ≤ d) (hF0 : ∀ (d : Nat), e ≤ d → ∀ (σ : mm) (x0 : Nat) (x1 : Int32), tyOK Γ (0, 12) x0 → ∀ r, F 0 σ x0 x1 = some r → CT l G yX13_writeNumber cX13_writeNumber 2 (none) d 0 0 [.ref (G.2.1 x0), .int x1] Γ σ (PP none Γ r)) (σ : mm) (x0 : Nat) (x1 : Int32)  (t0 : tyOK Γ (0, 12) x0)  (r : mm) (h : fX13_writeNumber_b14 F Γ.2 σ x0 x1 = some r) (hQ : Q none Γ r) : WP l G yX13_writeNumber cX13_writeNumber 2 (none) d 0 0 Q 0 0 14 [(0, .ref (G.2.1 x0)), (1, .int x1)] [] Γ σ := by
  unfold fX13_writeNumber_b14 at h
  refine r_aload_n 0 dX13_writeNumber_14 rfl ?_
  refine r_bipush (v := 48) dX13_writeNumber_15 (by decide) ?_
  refine r_iload_n 1 dX13_writeNumber_17 rfl ?_
  refine r_bipush (v := 10) dX13_writeNumber_18 (by decide) ?_
  refine r_irem dX13_writeNumber_20 (by decide) ?_
  refine r_iadd dX13_writeNumber_21 ?_
  obtain ⟨τ1, eτ1, h⟩ := bd0_some h
  refine q_cVV [.int ((48 : Int32) + (x1 - x1 / (10 : Int32) * (10 : Int32)))] dX13_writeNumber_22 cv_X13_368 (ci := 12) rfl rfl t0 rfl rfl (Nat.le_of_ble_eq_true rfl) (by omega) (kX13_write (d - 1) (by omega) x0 ((48 : Int32) + (x1 - x1 / (10 : Int32) * (10 : Int32))) t0 τ1 eτ1) ?_
  obtain rfl := Option.some.inj h
  exact r_return dX13_writeNumber_25 rfl hQ (Nat.le_refl _) (Nat.le_refl _)
theorem kX13_writeNumber {l : Launch} {G : gg} {Γ : ly} {σ : mm} (d : Nat) (hdd : 1 ≤ d) {F : Nat → mm → Nat → Int32 → Option mm} {e : Nat} (hde : e + 1 ≤ d) (hF0 : ∀ (d : Nat), e ≤ d → ∀ (σ : mm) (x0 : Nat) (x1 : Int32), tyOK Γ (0, 12) x0 → ∀ r, F 0 σ x0 x1 = some r → CT l G yX13_writeNumber cX13_writeNumber 2 (none) d 0 0 [.ref (G.2.1 x0), .int x1] Γ σ (PP none Γ r)) (x0 : Nat) (x1 : Int32) (t0 : tyOK Γ (0, 12) x0) (r : mm) (h : fX13_writeNumber F Γ.2 σ x0 x1 = some r) : CT l G yX13_writeNumber cX13_writeNumber 2 (none) d 0 0 [.ref (G.2.1 x0), .int x1] Γ σ (PP none Γ r) := by
  refine CT.ofWP (by decide) (Nat.le_of_ble_eq_true rfl) ?_
  have hQ : PP none Γ r none Γ r := PP.self
  generalize PP none Γ r = Q at hQ ⊢
  show WP l G yX13_writeNumber cX13_writeNumber 2 (none) d 0 0 Q 0 0 0 [(0, .ref (G.2.1 x0)), (1, .int x1)] [] Γ σ
  unfold fX13_writeNumber at h
  refine r_iload_n 1 dX13_writeNumber_0 rfl ?_
  refine r_bipush (v := 9) dX13_writeNumber_1 (by decide) ?_
  refine r_icmp_le 14 dX13_writeNumber_3 (by decide) h (fun _ h => ?_) (fun _ h => ?_)
  · exact tX13_writeNumber_b14 hdd hde hF0 σ x0 x1 t0 _ h hQ
  · refine r_aload_n 0 dX13_writeNumber_6 rfl ?_
    refine r_iload_n 1 dX13_writeNumber_7 rfl ?_
    refine r_bipush (v := 10) dX13_writeNumber_8 (by decide) ?_
    refine r_idiv dX13_writeNumber_10 (by decide) ?_
    obtain ⟨τ1, eτ1, h⟩ := bd0_some h
    refine q_cVV [.int (x1 / (10 : Int32))] dX13_writeNumber_11 cv_X13_371 (ci := 12) rfl rfl t0 rfl rfl (Nat.le_of_ble_eq_true rfl) (by omega) (hF0 (d - 1) (by omega) σ x0 (x1 / (10 : Int32)) t0 τ1 eτ1) ?_
    exact tX13_writeNumber_b14 hdd hde hF0 τ1 x0 x1 t0 _ h hQ
theorem kallX13_writeNumber {l : Launch} {G : gg} {Γ : ly} : ∀ n : Nat, (∀ (d : Nat), 1 + n ≤ d → ∀ (σ : mm) (x0 : Nat) (x1 : Int32), tyOK Γ (0, 12) x0 → ∀ r, gX13_writeNumber Γ.2 n 0 σ x0 x1 = some r → CT l G yX13_writeNumber cX13_writeNumber 2 (none) d 0 0 [.ref (G.2.1 x0), .int x1] Γ σ (PP none Γ r)) := by
  intro n
  induction n with
  | zero => exact fun d _ σ _ _ _ r h => (nomatch h)
  | succ n ih =>
    have hF0 := ih
    refine ?_
    · intro d hd σ x0 x1 t0 r h
      exact kX13_writeNumber (F := gX13_writeNumber Γ.2 n) (e := 1 + n) d (by omega) (by omega) hF0 x0 x1 t0 r h
theorem kgX13_writeNumber {l : Launch} {G : gg} {Γ : ly} (n : Nat) : ∀ (d : Nat), 1 + n ≤ d → ∀ (σ : mm) (x0 : Nat) (x1 : Int32), tyOK Γ (0, 12) x0 → ∀ r, gX13_writeNumber Γ.2 n 0 σ x0 x1 = some r → CT l G yX13_writeNumber cX13_writeNumber 2 (none) d 0 0 [.ref (G.2.1 x0), .int x1] Γ σ (PP none Γ r) := (kallX13_writeNumber n)
