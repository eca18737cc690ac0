/-! the walks, 4 -/
theorem tX13_isAwake_b39 {l : Launch} {G : gg} {Γ : ly} {d : Nat} {Q : Option Value → ly → mm → Prop} (hdd : 1 ≤ d) (σ : mm)  (s0 : Int32)   (r : Int32) (h : fX13_isAwake_b39 Γ.2 σ s0 = some r) (hQ : Q (some (.int r)) Γ σ) : WP l G yX13_isAwake cX13_isAwake 3 (some .boolean) d 0 0 Q 0 0 39 [] [.int s0] Γ σ := by
  unfold fX13_isAwake_b39 at h
  obtain ⟨hbz, h⟩ := rZ_some h
  obtain rfl := Option.some.inj h
  exact r_zreturn dX13_isAwake_39 rfl hbz hQ (Nat.le_refl _) (Nat.le_refl _)
theorem tX13_isAwake_b34 {l : Launch} {G : gg} {Γ : ly} {d : Nat} {Q : Option Value → ly → mm → Prop} (hdd : 1 ≤ d) (σ : mm)     (r : Int32) (h : fX13_isAwake_b34 Γ.2 σ  = some r) (hQ : Q (some (.int r)) Γ σ) : WP l G yX13_isAwake cX13_isAwake 3 (some .boolean) d 0 0 Q 0 0 34 [] [] Γ σ := by
  unfold fX13_isAwake_b34 at h
  refine r_iconst (v := 1) dX13_isAwake_34 (by decide) ?_
  refine r_goto 39 dX13_isAwake_35 (by decide) ?_
  exact tX13_isAwake_b39 hdd σ (1 : Int32)  _ h hQ
theorem tX13_isAwake_b38 {l : Launch} {G : gg} {Γ : ly} {d : Nat} {Q : Option Value → ly → mm → Prop} (hdd : 1 ≤ d) (σ : mm)     (r : Int32) (h : fX13_isAwake_b38 Γ.2 σ  = some r) (hQ : Q (some (.int r)) Γ σ) : WP l G yX13_isAwake cX13_isAwake 3 (some .boolean) d 0 0 Q 0 0 38 [] [] Γ σ := by
  unfold fX13_isAwake_b38 at h
  refine r_iconst (v := 0) dX13_isAwake_38 (by decide) ?_
  exact tX13_isAwake_b39 hdd σ (0 : Int32)  _ h hQ
theorem kX13_isAwake {l : Launch} {G : gg} {Γ : ly} {σ : mm} (d : Nat) (hdd : 1 ≤ d) (x0 : Nat) (x1 : Int32) (x2 : Int32) (t0 : tyOK Γ (0, 12) x0) (r : Int32) (h : fX13_isAwake Γ.2 σ x0 x1 x2 = some r) : CT l G yX13_isAwake cX13_isAwake 3 (some .boolean) d 0 0 [.ref (G.2.1 x0), .int x1, .int x2] Γ σ (PP (some (.int r)) Γ σ) := by
  refine CT.ofWP (by decide) (Nat.le_of_ble_eq_true rfl) ?_
  have hQ : PP (some (.int r)) Γ σ (some (.int r)) Γ σ := PP.self
  generalize PP (some (.int r)) Γ σ = Q at hQ ⊢
  show WP l G yX13_isAwake cX13_isAwake 3 (some .boolean) d 0 0 Q 0 0 0 [(0, .ref (G.2.1 x0)), (1, .int x1), (2, .int x2)] [] Γ σ
  unfold fX13_isAwake at h
  refine r_aload_n 0 dX13_isAwake_0 rfl ?_
  refine r_iload_n 1 dX13_isAwake_1 rfl ?_
  refine r_iload_n 2 dX13_isAwake_2 rfl ?_
  obtain ⟨v1, ev1, h⟩ := bd0_some h
  refine q_cVI [.int x1, .int x2] dX13_isAwake_3 cv_X13_224 (ci := 12) rfl rfl t0 rfl rfl (Nat.le_of_ble_eq_true rfl) (by omega) (kX13_isUp (d - 1) (by omega) x0 x1 x2 t0 v1 ev1) ?_
  refine r_if_ne 34 dX13_isAwake_6 (by decide) h (fun _ h => ?_) (fun _ h => ?_)
  · refine r_pick [] rfl ?_
    exact tX13_isAwake_b34 hdd σ  _ h hQ
  · refine r_iload_n 2 dX13_isAwake_9 rfl ?_
    refine r_aload_n 0 dX13_isAwake_10 rfl ?_
    refine q_getR (e9 := (1, 0)) dX13_isAwake_11 fd_X13_98 t0 rfl h (fun r2 tr2 h => ?_)
    refine r_bipush (v := 102) dX13_isAwake_14 (by decide) ?_
    refine q_iald dX13_isAwake_16 tr2 h (fun v3 h => ?_)
    refine r_icmp_ne 38 dX13_isAwake_17 (by decide) h (fun _ h => ?_) (fun _ h => ?_)
    · refine r_pick [] rfl ?_
      exact tX13_isAwake_b38 hdd σ  _ h hQ
    · refine r_aload_n 0 dX13_isAwake_20 rfl ?_
      refine q_getR (e9 := (1, 0)) dX13_isAwake_21 fd_X13_98 t0 rfl h (fun r4 tr4 h => ?_)
      refine r_bipush (v := 103) dX13_isAwake_24 (by decide) ?_
      refine q_iald dX13_isAwake_26 tr4 h (fun v5 h => ?_)
      refine r_iload_n 1 dX13_isAwake_27 rfl ?_
      obtain ⟨v6, ev6, h⟩ := bd0_some h
      refine q_cSI [.int v5, .int x1] dX13_isAwake_28 cs_X13_185 rfl rfl (Nat.le_of_ble_eq_true rfl) (by omega) (kX13_has (d - 1) (by omega) v5 x1  v6 ev6) ?_
      refine r_if_eq 38 dX13_isAwake_31 (by decide) h (fun _ h => ?_) (fun _ h => ?_)
      · refine r_pick [] rfl ?_
        exact tX13_isAwake_b38 hdd σ  _ h hQ
      · refine r_pick [] rfl ?_
        exact tX13_isAwake_b34 hdd σ  _ h hQ
theorem tX13_fonder_b36 {l : Launch} {G : gg} {Γ : ly} {d : Nat} {Q : Option Value → ly → mm → Prop} (hdd : 1 ≤ d) (σ : mm)  (s0 : Int32)   (r : Int32) (h : fX13_fonder_b36 Γ.2 σ s0 = some r) (hQ : Q (some (.int r)) Γ σ) : WP l G yX13_fonder cX13_fonder 4 (some .int) d 0 0 Q 0 0 36 [] [.int s0] Γ σ := by
  unfold fX13_fonder_b36 at h
  obtain rfl := Option.some.inj h
  exact r_ireturn dX13_fonder_36 rfl hQ (Nat.le_refl _) (Nat.le_refl _)
theorem kX13_fonder {l : Launch} {G : gg} {Γ : ly} {σ : mm} (d : Nat) (hdd : 1 ≤ d) (x0 : Nat) (x1 : Int32) (x2 : Int32) (t0 : tyOK Γ (0, 12) x0) (r : Int32) (h : fX13_fonder Γ.2 σ x0 x1 x2 = some r) : CT l G yX13_fonder cX13_fonder 4 (some .int) d 0 0 [.ref (G.2.1 x0), .int x1, .int x2] Γ σ (PP (some (.int r)) Γ σ) := by
  refine CT.ofWP (by decide) (Nat.le_of_ble_eq_true rfl) ?_
  have hQ : PP (some (.int r)) Γ σ (some (.int r)) Γ σ := PP.self
  generalize PP (some (.int r)) Γ σ = Q at hQ ⊢
  show WP l G yX13_fonder cX13_fonder 4 (some .int) d 0 0 Q 0 0 0 [(0, .ref (G.2.1 x0)), (1, .int x1), (2, .int x2)] [] Γ σ
  unfold fX13_fonder at h
  refine r_bipush (v := 99) dX13_fonder_0 (by decide) ?_
  refine r_iload_n 2 dX13_fonder_2 rfl ?_
  refine r_aload_n 0 dX13_fonder_3 rfl ?_
  refine q_getR (e9 := (1, 0)) dX13_fonder_4 fd_X13_98 t0 rfl h (fun r1 tr1 h => ?_)
  refine r_bipush (v := 32) dX13_fonder_7 (by decide) ?_
  refine r_iload_n 1 dX13_fonder_9 rfl ?_
  refine r_iadd dX13_fonder_10 ?_
  refine q_iald dX13_fonder_11 tr1 h (fun v2 h => ?_)
  refine r_iadd dX13_fonder_12 ?_
  obtain ⟨v3, ev3, h⟩ := bd0_some h
  refine q_cSI [.int (99 : Int32), .int (x2 + v2)] dX13_fonder_13 cs_X13_227 rfl rfl (Nat.le_of_ble_eq_true rfl) (by omega) (kX13_least (d - 1) (by omega) (99 : Int32) (x2 + v2)  v3 ev3) ?_
  refine r_aload_n 0 dX13_fonder_16 rfl ?_
  refine q_getR (e9 := (1, 0)) dX13_fonder_17 fd_X13_98 t0 rfl h (fun r4 tr4 h => ?_)
  refine r_bipush (v := 40) dX13_fonder_20 (by decide) ?_
  refine r_iload_n 1 dX13_fonder_22 rfl ?_
  refine r_iadd dX13_fonder_23 ?_
  refine q_iald dX13_fonder_24 tr4 h (fun v5 h => ?_)
  refine r_isub dX13_fonder_25 ?_
  refine q_nmI h (fun v6 h => ?_)
  refine r_istore_n (lv' := [(3, .int v6), (0, .ref (G.2.1 x0)), (1, .int x1), (2, .int x2)]) dX13_fonder_26 (by decide) rfl ?_
  refine r_iload_n 0 dX13_fonder_27 rfl ?_
  refine r_if_ge 35 dX13_fonder_28 (by decide) h (fun _ h => ?_) (fun _ h => ?_)
  · refine r_iload_n 0 dX13_fonder_35 rfl ?_
    refine r_pick [] rfl ?_
    exact tX13_fonder_b36 hdd σ v6  _ h hQ
  · refine r_iconst (v := 0) dX13_fonder_31 (by decide) ?_
    refine r_goto 36 dX13_fonder_32 (by decide) ?_
    refine r_pick [] rfl ?_
    exact tX13_fonder_b36 hdd σ (0 : Int32)  _ h hQ
theorem tX13_fondAt_b42 {l : Launch} {G : gg} {Γ : ly} {d : Nat} {Q : Option Value → ly → mm → Prop} (hdd : 2 ≤ d) (σ : mm) (x0 : Nat) (x1 : Int32) (x2 : Int32) (x3 : Int32) (x4 : Int32)  (t0 : tyOK Γ (0, 12) x0)  (r : ((Int32 × Int32) ⊕ Int32)) (h : fX13_fondAt_b42 Γ.2 σ x0 x1 x2 x3 x4 = some r) (hb : ∀ (x3 : Int32) (x4 : Int32), r = .inl (x3, x4) → WP l G yX13_fondAt cX13_fondAt 5 (some .int) d 0 0 Q 0 0 19 [(0, .ref (G.2.1 x0)), (1, .int x1), (2, .int x2), (3, .int x3), (4, .int x4)] [] Γ σ) (hx0 : ∀ (x3 : Int32), r = .inr x3 → WP l G yX13_fondAt cX13_fondAt 5 (some .int) d 0 0 Q 0 0 48 [(3, .int x3)] [] Γ σ) : WP l G yX13_fondAt cX13_fondAt 5 (some .int) d 0 0 Q 0 0 42 [(0, .ref (G.2.1 x0)), (1, .int x1), (2, .int x2), (3, .int x3), (4, .int x4)] [] Γ σ := by
  unfold fX13_fondAt_b42 at h
  refine q_iinc (v := 1) 4 (fun v1 => [(4, .int v1), (0, .ref (G.2.1 x0)), (1, .int x1), (2, .int x2), (3, .int x3)]) dX13_fondAt_42 rfl (by decide) (by decide) (fun _ => rfl) h (fun v1 h => ?_)
  refine r_goto 19 dX13_fondAt_45 (by decide) ?_
  obtain rfl := Option.some.inj h
  refine r_pick [1, 2, 3, 4, 0] rfl ?_
  exact hb _ _ rfl
theorem sX13_fondAt_L19 {l : Launch} {G : gg} {Γ : ly} {d : Nat} {Q : Option Value → ly → mm → Prop} (hdd : 2 ≤ d) (σ : mm) (x0 : Nat) (x1 : Int32) (x2 : Int32) (t0 : tyOK Γ (0, 12) x0) {K : Int32 → Prop} (kx0 : ∀ (x3 : Int32), K x3 → WP l G yX13_fondAt cX13_fondAt 5 (some .int) d 0 0 Q 0 0 48 [(3, .int x3)] [] Γ σ) : ∀ (N : Nat) (s : (Int32 × Int32)) (b : Int32), loopN (fX13_fondAt_L19 Γ.2 σ x0 x1 x2) N s = some b → K b → WP l G yX13_fondAt cX13_fondAt 5 (some .int) d 0 0 Q 0 0 19 [(0, .ref (G.2.1 x0)), (1, .int x1), (2, .int x2), (3, .int s.1), (4, .int s.2)] [] Γ σ := by
  refine r_loop (f := fX13_fondAt_L19 Γ.2 σ x0 x1 x2) (hlv := fun s => [(0, .ref (G.2.1 x0)), (1, .int x1), (2, .int x2), (3, .int s.1), (4, .int s.2)]) (hsg := fun s => σ) ?_
  rintro ⟨x3, x4⟩ r h hb hx
  have hb : ∀ (x3 : Int32) (x4 : Int32), r = .inl (x3, x4) → WP l G yX13_fondAt cX13_fondAt 5 (some .int) d 0 0 Q 0 0 19 [(0, .ref (G.2.1 x0)), (1, .int x1), (2, .int x2), (3, .int x3), (4, .int x4)] [] Γ σ := fun x3 x4 e => hb (x3, x4) e
  have hx0 : ∀ (x3 : Int32), r = .inr x3 → WP l G yX13_fondAt cX13_fondAt 5 (some .int) d 0 0 Q 0 0 48 [(3, .int x3)] [] Γ σ := fun x3 e => kx0 x3 (hx _ e)
  unfold fX13_fondAt_L19 at h
  have h := un2_some h
  show WP l G yX13_fondAt cX13_fondAt 5 (some .int) d 0 0 Q 0 0 19 [(0, .ref (G.2.1 x0)), (1, .int x1), (2, .int x2), (3, .int x3), (4, .int x4)] [] Γ σ
  refine r_iload 4 dX13_fondAt_19 rfl ?_
  refine r_iload_n 2 dX13_fondAt_21 rfl ?_
  refine r_icmp_ge 48 dX13_fondAt_22 (by decide) h (fun _ h => ?_) (fun _ h => ?_)
  · obtain rfl := Option.some.inj h
    refine r_pick [3] rfl ?_
    exact hx0 _ rfl
  · refine r_iload 4 dX13_fondAt_25 rfl ?_
    refine r_bipush (v := 24) dX13_fondAt_27 (by decide) ?_
    refine r_irem dX13_fondAt_29 (by decide) ?_
    refine r_bipush (v := 23) dX13_fondAt_30 (by decide) ?_
    refine r_icmp_ne 42 dX13_fondAt_32 (by decide) h (fun _ h => ?_) (fun _ h => ?_)
    · exact tX13_fondAt_b42 hdd σ x0 x1 x2 x3 x4 t0 _ h hb hx0
    · refine r_aload_n 0 dX13_fondAt_35 rfl ?_
      refine r_iload_n 1 dX13_fondAt_36 rfl ?_
      refine r_iload_n 3 dX13_fondAt_37 rfl ?_
      obtain ⟨v1, ev1, h⟩ := bd0_some h
      refine q_cVI [.int x1, .int x3] dX13_fondAt_38 cv_X13_231 (ci := 12) rfl rfl t0 rfl rfl (Nat.le_of_ble_eq_true rfl) (by omega) (kX13_fonder (d - 1) (by omega) x0 x1 x3 t0 v1 ev1) ?_
      refine r_istore_n (lv' := [(3, .int v1), (0, .ref (G.2.1 x0)), (1, .int x1), (2, .int x2), (4, .int x4)]) dX13_fondAt_41 (by decide) rfl ?_
      refine r_pick [1, 2, 3, 0, 4] rfl ?_
      exact tX13_fondAt_b42 hdd σ x0 x1 x2 v1 x4 t0 _ h hb hx0
theorem kX13_fondAt {l : Launch} {G : gg} {Γ : ly} {σ : mm} (d : Nat) (hdd : 2 ≤ d) (x0 : Nat) (x1 : Int32) (x2 : Int32) (t0 : tyOK Γ (0, 12) x0) (r : Int32) (h : fX13_fondAt Γ.2 σ x0 x1 x2 = some r) : CT l G yX13_fondAt cX13_fondAt 5 (some .int) d 0 0 [.ref (G.2.1 x0), .int x1, .int x2] Γ σ (PP (some (.int r)) Γ σ) := by
  refine CT.ofWP (by decide) (Nat.le_of_ble_eq_true rfl) ?_
  have hQ : PP (some (.int r)) Γ σ (some (.int r)) Γ σ := PP.self
  generalize PP (some (.int r)) Γ σ = Q at hQ ⊢
  show WP l G yX13_fondAt cX13_fondAt 5 (some .int) d 0 0 Q 0 0 0 [(0, .ref (G.2.1 x0)), (1, .int x1), (2, .int x2)] [] Γ σ
  unfold fX13_fondAt at h
  refine r_aload_n 0 dX13_fondAt_0 rfl ?_
  refine q_getR (e9 := (1, 0)) dX13_fondAt_1 fd_X13_98 t0 rfl h (fun r1 tr1 h => ?_)
  refine r_bipush (v := 105) dX13_fondAt_4 (by decide) ?_
  refine r_iload_n 1 dX13_fondAt_6 rfl ?_
  refine r_iadd dX13_fondAt_7 ?_
  refine q_iald dX13_fondAt_8 tr1 h (fun v2 h => ?_)
  refine r_istore_n (lv' := [(3, .int v2), (0, .ref (G.2.1 x0)), (1, .int x1), (2, .int x2)]) dX13_fondAt_9 (by decide) rfl ?_
  refine r_aload_n 1 dX13_fondAt_10 rfl ?_
  refine q_getR (e9 := (1, 0)) dX13_fondAt_11 fd_X13_98 t0 rfl h (fun r3 tr3 h => ?_)
  refine r_bipush (v := 102) dX13_fondAt_14 (by decide) ?_
  refine q_iald dX13_fondAt_16 tr3 h (fun v4 h => ?_)
  refine r_istore (lv' := [(4, .int v4), (3, .int v2), (0, .ref (G.2.1 x0)), (1, .int x1), (2, .int x2)]) dX13_fondAt_17 (by decide) rfl ?_
  obtain ⟨b5, eb5, h⟩ := bd0_some h
  refine r_pick [2, 3, 4, 1, 0] rfl ?_
  refine sX13_fondAt_L19 hdd σ x0 x1 x2 t0 (K := fun b => b = b5) ?_ 1000 (v2, v4) b5 eb5 rfl
  rintro v6 rfl
  refine r_iload_n 0 dX13_fondAt_48 rfl ?_
  obtain rfl := Option.some.inj h
  exact r_ireturn dX13_fondAt_49 rfl hQ (Nat.le_refl _) (Nat.le_refl _)
theorem tX13_isWilling_b29 {l : Launch} {G : gg} {Γ : ly} {d : Nat} {Q : Option Value → ly → mm → Prop} (hdd : 3 ≤ d) (σ : mm)  (s0 : Int32)   (r : Int32) (h : fX13_isWilling_b29 Γ.2 σ s0 = some r) (hQ : Q (some (.int r)) Γ σ) : WP l G yX13_isWilling cX13_isWilling 3 (some .boolean) d 0 0 Q 0 0 29 [] [.int s0] Γ σ := by
  unfold fX13_isWilling_b29 at h
  obtain ⟨hbz, h⟩ := rZ_some h
  obtain rfl := Option.some.inj h
  exact r_zreturn dX13_isWilling_29 rfl hbz hQ (Nat.le_refl _) (Nat.le_refl _)
theorem tX13_isWilling_b28 {l : Launch} {G : gg} {Γ : ly} {d : Nat} {Q : Option Value → ly → mm → Prop} (hdd : 3 ≤ d) (σ : mm)     (r : Int32) (h : fX13_isWilling_b28 Γ.2 σ  = some r) (hQ : Q (some (.int r)) Γ σ) : WP l G yX13_isWilling cX13_isWilling 3 (some .boolean) d 0 0 Q 0 0 28 [] [] Γ σ := by
  unfold fX13_isWilling_b28 at h
  refine r_iconst (v := 0) dX13_isWilling_28 (by decide) ?_
  exact tX13_isWilling_b29 hdd σ (0 : Int32)  _ h hQ
theorem kX13_isWilling {l : Launch} {G : gg} {Γ : ly} {σ : mm} (d : Nat) (hdd : 3 ≤ d) (x0 : Nat) (x1 : Int32) (x2 : Int32) (t0 : tyOK Γ (0, 12) x0) (r : Int32) (h : fX13_isWilling Γ.2 σ x0 x1 x2 = some r) : CT l G yX13_isWilling cX13_isWilling 3 (some .boolean) d 0 0 [.ref (G.2.1 x0), .int x1, .int x2] Γ σ (PP (some (.int r)) Γ σ) := by
  refine CT.ofWP (by decide) (Nat.le_of_ble_eq_true rfl) ?_
  have hQ : PP (some (.int r)) Γ σ (some (.int r)) Γ σ := PP.self
  generalize PP (some (.int r)) Γ σ = Q at hQ ⊢
  show WP l G yX13_isWilling cX13_isWilling 3 (some .boolean) d 0 0 Q 0 0 0 [(0, .ref (G.2.1 x0)), (1, .int x1), (2, .int x2)] [] Γ σ
  unfold fX13_isWilling at h
  refine r_aload_n 0 dX13_isWilling_0 rfl ?_
  refine r_iload_n 1 dX13_isWilling_1 rfl ?_
  refine r_iload_n 2 dX13_isWilling_2 rfl ?_
  obtain ⟨v1, ev1, h⟩ := bd0_some h
  refine q_cVI [.int x1, .int x2] dX13_isWilling_3 cv_X13_234 (ci := 12) rfl rfl t0 rfl rfl (Nat.le_of_ble_eq_true rfl) (by omega) (kX13_isAwake (d - 1) (by omega) x0 x1 x2 t0 v1 ev1) ?_
  refine r_if_eq 28 dX13_isWilling_6 (by decide) h (fun _ h => ?_) (fun _ h => ?_)
  · refine r_pick [] rfl ?_
    exact tX13_isWilling_b28 hdd σ  _ h hQ
  · refine r_aload_n 0 dX13_isWilling_9 rfl ?_
    refine r_iload_n 1 dX13_isWilling_10 rfl ?_
    refine r_iload_n 2 dX13_isWilling_11 rfl ?_
    obtain ⟨v2, ev2, h⟩ := bd0_some h
    refine q_cVI [.int x1, .int x2] dX13_isWilling_12 cv_X13_237 (ci := 12) rfl rfl t0 rfl rfl (Nat.le_of_ble_eq_true rfl) (by omega) (kX13_fondAt (d - 1) (by omega) x0 x1 x2 t0 v2 ev2) ?_
    refine r_aload_n 0 dX13_isWilling_15 rfl ?_
    refine q_getR (e9 := (1, 0)) dX13_isWilling_16 fd_X13_98 t0 rfl h (fun r3 tr3 h => ?_)
    refine r_iconst (v := 4) dX13_isWilling_19 (by decide) ?_
    refine q_iald dX13_isWilling_20 tr3 h (fun v4 h => ?_)
    refine r_icmp_lt 28 dX13_isWilling_21 (by decide) h (fun _ h => ?_) (fun _ h => ?_)
    · refine r_pick [] rfl ?_
      exact tX13_isWilling_b28 hdd σ  _ h hQ
    · refine r_iconst (v := 1) dX13_isWilling_24 (by decide) ?_
      refine r_goto 29 dX13_isWilling_25 (by decide) ?_
      refine r_pick [] rfl ?_
      exact tX13_isWilling_b29 hdd σ (1 : Int32)  _ h hQ
theorem tX13_half_b12 {l : Launch} {G : gg} {Γ : ly} {d : Nat} {Q : Option Value → ly → mm → Prop} (hdd : 0 ≤ d) (σ : mm)  (s0 : Int32)   (r : Int32) (h : fX13_half_b12 Γ.2 σ s0 = some r) (hQ : Q (some (.int r)) Γ σ) : WP l G yX13_half cX13_half 1 (some .int) d 0 0 Q 0 0 12 [] [.int s0] Γ σ := by
  unfold fX13_half_b12 at h
  obtain rfl := Option.some.inj h
  exact r_ireturn dX13_half_12 rfl hQ (Nat.le_refl _) (Nat.le_refl _)
theorem kX13_half {l : Launch} {G : gg} {Γ : ly} {σ : mm} (d : Nat) (hdd : 0 ≤ d) (x0 : Int32)  (r : Int32) (h : fX13_half Γ.2 σ x0 = some r) : CT l G yX13_half cX13_half 1 (some .int) d 0 0 [.int x0] Γ σ (PP (some (.int r)) Γ σ) := by
  refine CT.ofWP (by decide) (Nat.le_of_ble_eq_true rfl) ?_
  have hQ : PP (some (.int r)) Γ σ (some (.int r)) Γ σ := PP.self
  generalize PP (some (.int r)) Γ σ = Q at hQ ⊢
  show WP l G yX13_half cX13_half 1 (some .int) d 0 0 Q 0 0 0 [(0, .int x0)] [] Γ σ
  unfold fX13_half at h
  refine r_iload_n 0 dX13_half_0 rfl ?_
  refine r_iconst (v := 2) dX13_half_1 (by decide) ?_
  refine r_icmp_ge 9 dX13_half_2 (by decide) h (fun _ h => ?_) (fun _ h => ?_)
  · refine r_iload_n 0 dX13_half_9 rfl ?_
    refine r_iconst (v := 2) dX13_half_10 (by decide) ?_
    refine r_idiv dX13_half_11 (by decide) ?_
    refine r_pick [] rfl ?_
    exact tX13_half_b12 hdd σ (x0 / (2 : Int32))  _ h hQ
  · refine r_iconst (v := 1) dX13_half_5 (by decide) ?_
    refine r_goto 12 dX13_half_6 (by decide) ?_
    refine r_pick [] rfl ?_
    exact tX13_half_b12 hdd σ (1 : Int32)  _ h hQ
theorem tX13_runs_b61 {l : Launch} {G : gg} {Γ : ly} {d : Nat} {Q : Option Value → ly → mm → Prop} (hdd : 2 ≤ d) (σ : mm)  (s0 : Int32)   (r : Int32) (h : fX13_runs_b61 Γ.2 σ s0 = some r) (hQ : Q (some (.int r)) Γ σ) : WP l G yX13_runs cX13_runs 4 (some .int) d 0 0 Q 0 0 61 [] [.int s0] Γ σ := by
  unfold fX13_runs_b61 at h
  obtain rfl := Option.some.inj h
  exact r_ireturn dX13_runs_61 rfl hQ (Nat.le_refl _) (Nat.le_refl _)
theorem tX13_runs_b45 {l : Launch} {G : gg} {Γ : ly} {d : Nat} {Q : Option Value → ly → mm → Prop} (hdd : 2 ≤ d) (σ : mm) (x0 : Nat) (x2 : Int32) (x3 : Int32)  (t0 : tyOK Γ (0, 12) x0)  (r : Int32) (h : fX13_runs_b45 Γ.2 σ x0 x2 x3 = some r) (hQ : Q (some (.int r)) Γ σ) : WP l G yX13_runs cX13_runs 4 (some .int) d 0 0 Q 0 0 45 [(0, .ref (G.2.1 x0)), (2, .int x2), (3, .int x3)] [] Γ σ := by
  unfold fX13_runs_b45 at h
  refine r_aload_n 0 dX13_runs_45 rfl ?_
  refine r_iload_n 1 dX13_runs_46 rfl ?_
  obtain ⟨v1, ev1, h⟩ := bd0_some h
  refine q_cVI [.int x2] dX13_runs_47 cv_X13_243 (ci := 12) rfl rfl t0 rfl rfl (Nat.le_of_ble_eq_true rfl) (by omega) (kX13_isDamp (d - 1) (by omega) x0 x2 t0 v1 ev1) ?_
  refine r_if_eq 60 dX13_runs_50 (by decide) h (fun _ h => ?_) (fun _ h => ?_)
  · refine r_iload_n 2 dX13_runs_60 rfl ?_
    refine r_pick [] rfl ?_
    exact tX13_runs_b61 hdd σ x3  _ h hQ
  · refine r_iload_n 2 dX13_runs_53 rfl ?_
    obtain ⟨v2, ev2, h⟩ := bd0_some h
    refine q_cSI [.int x3] dX13_runs_54 cs_X13_240 rfl rfl (Nat.le_of_ble_eq_true rfl) (by omega) (kX13_half (d - 1) (by omega) x3  v2 ev2) ?_
    refine r_goto 61 dX13_runs_57 (by decide) ?_
    refine r_pick [] rfl ?_
    exact tX13_runs_b61 hdd σ v2  _ h hQ
theorem kX13_runs {l : Launch} {G : gg} {Γ : ly} {σ : mm} (d : Nat) (hdd : 2 ≤ d) (x0 : Nat) (x1 : Int32) (x2 : Int32) (t0 : tyOK Γ (0, 12) x0) (r : Int32) (h : fX13_runs Γ.2 σ x0 x1 x2 = some r) : CT l G yX13_runs cX13_runs 4 (some .int) d 0 0 [.ref (G.2.1 x0), .int x1, .int x2] Γ σ (PP (some (.int r)) Γ σ) := by
  refine CT.ofWP (by decide) (Nat.le_of_ble_eq_true rfl) ?_
  have hQ : PP (some (.int r)) Γ σ (some (.int r)) Γ σ := PP.self
  generalize PP (some (.int r)) Γ σ = Q at hQ ⊢
  show WP l G yX13_runs cX13_runs 4 (some .int) d 0 0 Q 0 0 0 [(0, .ref (G.2.1 x0)), (1, .int x1), (2, .int x2)] [] Γ σ
  unfold fX13_runs at h
  refine r_aload_n 0 dX13_runs_0 rfl ?_
  refine q_getR (e9 := (1, 0)) dX13_runs_1 fd_X13_98 t0 rfl h (fun r1 tr1 h => ?_)
  refine r_sipush (v := 129) dX13_runs_4 (by decide) ?_
  refine r_iload_n 1 dX13_runs_7 rfl ?_
  refine r_iadd dX13_runs_8 ?_
  refine q_iald dX13_runs_9 tr1 h (fun v2 h => ?_)
  refine r_iconst (v := 2) dX13_runs_10 (by decide) ?_
  refine r_icmp_ne 16 dX13_runs_11 (by decide) h (fun _ h => ?_) (fun _ h => ?_)
  · refine r_aload_n 0 dX13_runs_16 rfl ?_
    refine q_getR (e9 := (1, 0)) dX13_runs_17 fd_X13_98 t0 rfl h (fun r3 tr3 h => ?_)
    refine r_bipush (v := 121) dX13_runs_20 (by decide) ?_
    refine r_iload_n 1 dX13_runs_22 rfl ?_
    refine r_iadd dX13_runs_23 ?_
    refine q_iald dX13_runs_24 tr3 h (fun v4 h => ?_)
    refine r_istore_n (lv' := [(3, .int v4), (0, .ref (G.2.1 x0)), (1, .int x1), (2, .int x2)]) dX13_runs_25 (by decide) rfl ?_
    refine r_aload_n 1 dX13_runs_26 rfl ?_
    refine q_getR (e9 := (1, 0)) dX13_runs_27 fd_X13_98 t0 rfl h (fun r5 tr5 h => ?_)
    refine r_sipush (v := 129) dX13_runs_30 (by decide) ?_
    refine r_iload_n 2 dX13_runs_33 rfl ?_
    refine r_iadd dX13_runs_34 ?_
    refine q_iald dX13_runs_35 tr5 h (fun v6 h => ?_)
    refine r_iconst (v := 1) dX13_runs_36 (by decide) ?_
    refine r_icmp_ne 45 dX13_runs_37 (by decide) h (fun _ h => ?_) (fun _ h => ?_)
    · refine r_pick [1, 3, 0] rfl ?_
      exact tX13_runs_b45 hdd σ x0 x2 v4 t0 _ h hQ
    · refine r_iload_n 0 dX13_runs_40 rfl ?_
      obtain ⟨v7, ev7, h⟩ := bd0_some h
      refine q_cSI [.int v4] dX13_runs_41 cs_X13_240 rfl rfl (Nat.le_of_ble_eq_true rfl) (by omega) (kX13_half (d - 1) (by omega) v4  v7 ev7) ?_
      refine r_istore_n (lv' := [(3, .int v7), (0, .ref (G.2.1 x0)), (1, .int x1), (2, .int x2)]) dX13_runs_44 (by decide) rfl ?_
      refine r_pick [1, 3, 0] rfl ?_
      exact tX13_runs_b45 hdd σ x0 x2 v7 t0 _ h hQ
  · refine r_iconst (v := 0) dX13_runs_14 (by decide) ?_
    obtain rfl := Option.some.inj h
    exact r_ireturn dX13_runs_15 rfl hQ (Nat.le_refl _) (Nat.le_refl _)
theorem tX13_otherOf_b44 {l : Launch} {G : gg} {Γ : ly} {d : Nat} {Q : Option Value → ly → mm → Prop} (hdd : 0 ≤ d) (σ : mm)  (s0 : Int32)   (r : Int32) (h : fX13_otherOf_b44 Γ.2 σ s0 = some r) (hQ : Q (some (.int r)) Γ σ) : WP l G yX13_otherOf cX13_otherOf 3 (some .int) d 0 0 Q 0 0 44 [] [.int s0] Γ σ := by
  unfold fX13_otherOf_b44 at h
  obtain rfl := Option.some.inj h
  exact r_ireturn dX13_otherOf_44 rfl hQ (Nat.le_refl _) (Nat.le_refl _)
theorem kX13_otherOf {l : Launch} {G : gg} {Γ : ly} {σ : mm} (d : Nat) (hdd : 0 ≤ d) (x0 : Nat) (x1 : Int32) (t0 : tyOK Γ (0, 12) x0) (r : Int32) (h : fX13_otherOf Γ.2 σ x0 x1 = some r) : CT l G yX13_otherOf cX13_otherOf 3 (some .int) d 0 0 [.ref (G.2.1 x0), .int x1] Γ σ (PP (some (.int r)) Γ σ) := by
  refine CT.ofWP (by decide) (Nat.le_of_ble_eq_true rfl) ?_
  have hQ : PP (some (.int r)) Γ σ (some (.int r)) Γ σ := PP.self
  generalize PP (some (.int r)) Γ σ = Q at hQ ⊢
  show WP l G yX13_otherOf cX13_otherOf 3 (some .int) d 0 0 Q 0 0 0 [(0, .ref (G.2.1 x0)), (1, .int x1)] [] Γ σ
  unfold fX13_otherOf at h
  refine r_aload_n 0 dX13_otherOf_0 rfl ?_
  refine q_getR (e9 := (1, 0)) dX13_otherOf_1 fd_X13_98 t0 rfl h (fun r1 tr1 h => ?_)
  refine r_bipush (v := 48) dX13_otherOf_4 (by decide) ?_
  refine r_iload_n 1 dX13_otherOf_6 rfl ?_
  refine r_iadd dX13_otherOf_7 ?_
  refine q_iald dX13_otherOf_8 tr1 h (fun v2 h => ?_)
  refine r_istore_n (lv' := [(2, .int v2), (0, .ref (G.2.1 x0)), (1, .int x1)]) dX13_otherOf_9 (by decide) rfl ?_
  refine r_aload_n 1 dX13_otherOf_10 rfl ?_
  refine q_getR (e9 := (1, 0)) dX13_otherOf_11 fd_X13_98 t0 rfl h (fun r3 tr3 h => ?_)
  refine r_bipush (v := 56) dX13_otherOf_14 (by decide) ?_
  refine r_iload_n 0 dX13_otherOf_16 rfl ?_
  refine r_iadd dX13_otherOf_17 ?_
  refine q_iald dX13_otherOf_18 tr3 h (fun v4 h => ?_)
  refine r_iload_n 2 dX13_otherOf_19 rfl ?_
  refine r_icmp_ne 35 dX13_otherOf_20 (by decide) h (fun _ h => ?_) (fun _ h => ?_)
  · refine r_aload_n 1 dX13_otherOf_35 rfl ?_
    refine q_getR (e9 := (1, 0)) dX13_otherOf_36 fd_X13_98 t0 rfl h (fun r5 tr5 h => ?_)
    refine r_bipush (v := 56) dX13_otherOf_39 (by decide) ?_
    refine r_iload_n 0 dX13_otherOf_41 rfl ?_
    refine r_iadd dX13_otherOf_42 ?_
    refine q_iald dX13_otherOf_43 tr5 h (fun v6 h => ?_)
    refine r_pick [] rfl ?_
    exact tX13_otherOf_b44 hdd σ v6  _ h hQ
  · refine r_aload_n 1 dX13_otherOf_23 rfl ?_
    refine q_getR (e9 := (1, 0)) dX13_otherOf_24 fd_X13_98 t0 rfl h (fun r7 tr7 h => ?_)
    refine r_bipush (v := 60) dX13_otherOf_27 (by decide) ?_
    refine r_iload_n 0 dX13_otherOf_29 rfl ?_
    refine r_iadd dX13_otherOf_30 ?_
    refine q_iald dX13_otherOf_31 tr7 h (fun v8 h => ?_)
    refine r_goto 44 dX13_otherOf_32 (by decide) ?_
    refine r_pick [] rfl ?_
    exact tX13_otherOf_b44 hdd σ v8  _ h hQ
theorem tX13_person_b88 {l : Launch} {G : gg} {Γ : ly} {d : Nat} {Q : Option Value → ly → mm → Prop} (hdd : 4 ≤ d) (σ : mm)  (s0 : Int32)   (r : (Int32 × mm)) (h : fX13_person_b88 Γ.2 σ s0 = some r) (hQ : Q (some (.int r.1)) Γ r.2) : WP l G yX13_person cX13_person 4 (some .int) d 0 0 Q 0 0 88 [] [.int s0] Γ σ := by
  unfold fX13_person_b88 at h
  obtain rfl := Option.some.inj h
  exact r_ireturn dX13_person_88 rfl hQ (Nat.le_refl _) (Nat.le_refl _)
theorem tX13_person_b115 {l : Launch} {G : gg} {Γ : ly} {d : Nat} {Q : Option Value → ly → mm → Prop} (hdd : 4 ≤ d) (σ : mm)  (s0 : Int32)   (r : (Int32 × mm)) (h : fX13_person_b115 Γ.2 σ s0 = some r) (hQ : Q (some (.int r.1)) Γ r.2) : WP l G yX13_person cX13_person 4 (some .int) d 0 0 Q 0 0 115 [] [.int s0] Γ σ := by
  unfold fX13_person_b115 at h
  obtain rfl := Option.some.inj h
  exact r_ireturn dX13_person_115 rfl hQ (Nat.le_refl _) (Nat.le_refl _)
theorem tX13_person_b146 {l : Launch} {G : gg} {Γ : ly} {d : Nat} {Q : Option Value → ly → mm → Prop} (hdd : 4 ≤ d) (σ : mm)  (s0 : Int32)   (r : (Int32 × mm)) (h : fX13_person_b146 Γ.2 σ s0 = some r) (hQ : Q (some (.int r.1)) Γ r.2) : WP l G yX13_person cX13_person 4 (some .int) d 0 0 Q 0 0 146 [] [.int s0] Γ σ := by
  unfold fX13_person_b146 at h
  obtain rfl := Option.some.inj h
  exact r_ireturn dX13_person_146 rfl hQ (Nat.le_refl _) (Nat.le_refl _)
theorem kX13_person {l : Launch} {G : gg} {Γ : ly} {σ : mm} (d : Nat) (hdd : 4 ≤ d) (x0 : Nat) (x1 : Int32) (x2 : Int32) (t0 : tyOK Γ (0, 12) x0) (r : (Int32 × mm)) (h : fX13_person Γ.2 σ x0 x1 x2 = some r) : CT l G yX13_person cX13_person 4 (some .int) d 0 0 [.ref (G.2.1 x0), .int x1, .int x2] Γ σ (PP (some (.int r.1)) Γ r.2) := by
  refine CT.ofWP (by decide) (Nat.le_of_ble_eq_true rfl) ?_
  have hQ : PP (some (.int r.1)) Γ r.2 (some (.int r.1)) Γ r.2 := PP.self
  generalize PP (some (.int r.1)) Γ r.2 = Q at hQ ⊢
  show WP l G yX13_person cX13_person 4 (some .int) d 0 0 Q 0 0 0 [(0, .ref (G.2.1 x0)), (1, .int x1), (2, .int x2)] [] Γ σ
  unfold fX13_person at h
  refine r_aload_n 0 dX13_person_0 rfl ?_
  refine r_iconst (v := 0) dX13_person_1 (by decide) ?_
  refine q_putI dX13_person_2 fd_X13_1 t0 h (fun τ1 h => ?_)
  refine r_aload_n 0 dX13_person_5 rfl ?_
  refine r_iload_n 1 dX13_person_6 rfl ?_
  obtain ⟨v2, ev2, h⟩ := bd0_some h
  refine q_cVI [.int x1] dX13_person_7 cv_X13_246 (ci := 12) rfl rfl t0 rfl rfl (Nat.le_of_ble_eq_true rfl) (by omega) (kX13_isPerson (d - 1) (by omega) x0 x1 t0 v2 ev2) ?_
  refine r_if_ne 18 dX13_person_10 (by decide) h (fun _ h => ?_) (fun _ h => ?_)
  · refine r_aload_n 0 dX13_person_18 rfl ?_
    refine q_getR (e9 := (1, 0)) dX13_person_19 fd_X13_98 t0 rfl h (fun r3 tr3 h => ?_)
    refine r_bipush (v := 48) dX13_person_22 (by decide) ?_
    refine r_iload_n 1 dX13_person_24 rfl ?_
    refine r_iadd dX13_person_25 ?_
    refine q_iald dX13_person_26 tr3 h (fun v4 h => ?_)
    refine r_istore_n (lv' := [(3, .int v4), (0, .ref (G.2.1 x0)), (1, .int x1), (2, .int x2)]) dX13_person_27 (by decide) rfl ?_
    refine r_iload_n 3 dX13_person_28 rfl ?_
    rcases if_split h with ⟨q9, h⟩ | ⟨n0, h⟩
    · refine r_table (0 : Int32) 39 68 dX13_person_29 q9 (by decide) (by decide) rfl (by decide) ?_
      refine r_aload_n 1 dX13_person_68 rfl ?_
      refine r_iload_n 2 dX13_person_69 rfl ?_
      refine r_aload_n 1 dX13_person_70 rfl ?_
      refine q_getR (e9 := (1, 0)) dX13_person_71 fd_X13_98 t0 rfl h (fun r5 tr5 h => ?_)
      refine r_bipush (v := 102) dX13_person_74 (by decide) ?_
      refine q_iald dX13_person_76 tr5 h (fun v6 h => ?_)
      obtain ⟨v7, ev7, h⟩ := bd0_some h
      refine q_cVI [.int x1, .int v6] dX13_person_77 cv_X13_234 (ci := 12) rfl rfl t0 rfl rfl (Nat.le_of_ble_eq_true rfl) (by omega) (kX13_isAwake (d - 1) (by omega) x0 x1 v6 t0 v7 ev7) ?_
      refine r_if_eq 87 dX13_person_80 (by decide) h (fun _ h => ?_) (fun _ h => ?_)
      · refine r_iconst (v := 0) dX13_person_87 (by decide) ?_
        refine r_pick [] rfl ?_
        exact tX13_person_b88 hdd τ1 (0 : Int32)  _ h hQ
      · refine r_iconst (v := 1) dX13_person_83 (by decide) ?_
        refine r_goto 88 dX13_person_84 (by decide) ?_
        refine r_pick [] rfl ?_
        exact tX13_person_b88 hdd τ1 (1 : Int32)  _ h hQ
    rcases if_split h with ⟨q9, h⟩ | ⟨n1, h⟩
    · refine r_table (1 : Int32) 60 89 dX13_person_29 q9 (by decide) (by decide) rfl (by decide) ?_
      refine r_aload_n 1 dX13_person_89 rfl ?_
      refine q_getR (e9 := (1, 0)) dX13_person_90 fd_X13_98 t0 rfl h (fun r8 tr8 h => ?_)
      refine r_bipush (v := 105) dX13_person_93 (by decide) ?_
      refine r_iload_n 2 dX13_person_95 rfl ?_
      refine r_iadd dX13_person_96 ?_
      refine q_iald dX13_person_97 tr8 h (fun v9 h => ?_)
      obtain rfl := Option.some.inj h
      exact r_ireturn dX13_person_98 rfl hQ (Nat.le_refl _) (Nat.le_refl _)
    rcases if_split h with ⟨q9, h⟩ | ⟨n2, h⟩
    · refine r_table (2 : Int32) 70 99 dX13_person_29 q9 (by decide) (by decide) rfl (by decide) ?_
      refine r_iload_n 0 dX13_person_99 rfl ?_
      obtain rfl := Option.some.inj h
      exact r_ireturn dX13_person_100 rfl hQ (Nat.le_refl _) (Nat.le_refl _)
    rcases if_split h with ⟨q9, h⟩ | ⟨n3, h⟩
    · refine r_table (3 : Int32) 72 101 dX13_person_29 q9 (by decide) (by decide) rfl (by decide) ?_
      refine r_iload_n 0 dX13_person_101 rfl ?_
      refine r_iconst (v := -1) dX13_person_102 (by decide) ?_
      refine r_icmp_ne 110 dX13_person_103 (by decide) h (fun _ h => ?_) (fun _ h => ?_)
      · refine r_aload_n 1 dX13_person_110 rfl ?_
        refine r_iload_n 2 dX13_person_111 rfl ?_
        obtain ⟨v10, ev10, h⟩ := bd0_some h
        refine q_cVI [.int x1] dX13_person_112 cv_X13_252 (ci := 12) rfl rfl t0 rfl rfl (Nat.le_of_ble_eq_true rfl) (by omega) (kX13_otherOf (d - 1) (by omega) x0 x1 t0 v10 ev10) ?_
        refine r_pick [] rfl ?_
        exact tX13_person_b115 hdd τ1 v10  _ h hQ
      · refine r_iconst (v := -1) dX13_person_106 (by decide) ?_
        refine r_goto 115 dX13_person_107 (by decide) ?_
        refine r_pick [] rfl ?_
        exact tX13_person_b115 hdd τ1 (-1 : Int32)  _ h hQ
    rcases if_split h with ⟨q9, h⟩ | ⟨n4, h⟩
    · refine r_table (4 : Int32) 87 116 dX13_person_29 q9 (by decide) (by decide) rfl (by decide) ?_
      refine r_aload_n 1 dX13_person_116 rfl ?_
      refine q_getR (e9 := (1, 0)) dX13_person_117 fd_X13_98 t0 rfl h (fun r11 tr11 h => ?_)
      refine r_bipush (v := 113) dX13_person_120 (by decide) ?_
      refine r_iload_n 2 dX13_person_122 rfl ?_
      refine r_iadd dX13_person_123 ?_
      refine q_iald dX13_person_124 tr11 h (fun v12 h => ?_)
      obtain rfl := Option.some.inj h
      exact r_ireturn dX13_person_125 rfl hQ (Nat.le_refl _) (Nat.le_refl _)
    rcases if_split h with ⟨q9, h⟩ | ⟨n5, h⟩
    · refine r_table (5 : Int32) 97 126 dX13_person_29 q9 (by decide) (by decide) rfl (by decide) ?_
      refine r_aload_n 1 dX13_person_126 rfl ?_
      refine r_iload_n 2 dX13_person_127 rfl ?_
      refine r_aload_n 1 dX13_person_128 rfl ?_
      refine q_getR (e9 := (1, 0)) dX13_person_129 fd_X13_98 t0 rfl h (fun r13 tr13 h => ?_)
      refine r_bipush (v := 102) dX13_person_132 (by decide) ?_
      refine q_iald dX13_person_134 tr13 h (fun v14 h => ?_)
      obtain ⟨v15, ev15, h⟩ := bd0_some h
      refine q_cVI [.int x1, .int v14] dX13_person_135 cv_X13_255 (ci := 12) rfl rfl t0 rfl rfl (Nat.le_of_ble_eq_true rfl) (by omega) (kX13_isWilling (d - 1) (by omega) x0 x1 v14 t0 v15 ev15) ?_
      refine r_if_eq 145 dX13_person_138 (by decide) h (fun _ h => ?_) (fun _ h => ?_)
      · refine r_iconst (v := 0) dX13_person_145 (by decide) ?_
        refine r_pick [] rfl ?_
        exact tX13_person_b146 hdd τ1 (0 : Int32)  _ h hQ
      · refine r_iconst (v := 1) dX13_person_141 (by decide) ?_
        refine r_goto 146 dX13_person_142 (by decide) ?_
        refine r_pick [] rfl ?_
        exact tX13_person_b146 hdd τ1 (1 : Int32)  _ h hQ
    have n0 := ne_int n0 (z := 0) rfl
    have n1 := ne_int n1 (z := 1) rfl
    have n2 := ne_int n2 (z := 2) rfl
    have n3 := ne_int n3 (z := 3) rfl
    have n4 := ne_int n4 (z := 4) rfl
    have n5 := ne_int n5 (z := 5) rfl
    refine r_tableD 147 dX13_person_29 (by omega) (by decide) ?_
    refine r_aload_n 1 dX13_person_147 rfl ?_
    obtain ⟨v16, τ17, ev16, h⟩ := bd2_some h
    refine q_cVI [] dX13_person_148 cv_X13_249 (ci := 12) rfl rfl t0 rfl rfl (Nat.le_of_ble_eq_true rfl) (by omega) (kX13_refuse (d - 1) (by omega) x0 t0 (v16, τ17) ev16) ?_
    obtain rfl := Option.some.inj h
    exact r_ireturn dX13_person_151 rfl hQ (Nat.le_refl _) (Nat.le_refl _)
  · refine r_aload_n 0 dX13_person_13 rfl ?_
    obtain ⟨v18, τ19, ev18, h⟩ := bd2_some h
    refine q_cVI [] dX13_person_14 cv_X13_249 (ci := 12) rfl rfl t0 rfl rfl (Nat.le_of_ble_eq_true rfl) (by omega) (kX13_refuse (d - 1) (by omega) x0 t0 (v18, τ19) ev18) ?_
    obtain rfl := Option.some.inj h
    exact r_ireturn dX13_person_17 rfl hQ (Nat.le_refl _) (Nat.le_refl _)
theorem tX13_glass_b146 {l : Launch} {G : gg} {Γ : ly} {d : Nat} {Q : Option Value → ly → mm → Prop} (hdd : 3 ≤ d) (σ : mm)  (s0 : Int32)   (r : (Int32 × mm)) (h : fX13_glass_b146 Γ.2 σ s0 = some r) (hQ : Q (some (.int r.1)) Γ r.2) : WP l G yX13_glass cX13_glass 3 (some .int) d 0 0 Q 0 0 146 [] [.int s0] Γ σ := by
  unfold fX13_glass_b146 at h
  obtain rfl := Option.some.inj h
  exact r_ireturn dX13_glass_146 rfl hQ (Nat.le_refl _) (Nat.le_refl _)
theorem tX13_glass_b206 {l : Launch} {G : gg} {Γ : ly} {d : Nat} {Q : Option Value → ly → mm → Prop} (hdd : 3 ≤ d) (σ : mm)  (s0 : Int32)   (r : (Int32 × mm)) (h : fX13_glass_b206 Γ.2 σ s0 = some r) (hQ : Q (some (.int r.1)) Γ r.2) : WP l G yX13_glass cX13_glass 3 (some .int) d 0 0 Q 0 0 206 [] [.int s0] Γ σ := by
  unfold fX13_glass_b206 at h
  obtain rfl := Option.some.inj h
  exact r_ireturn dX13_glass_206 rfl hQ (Nat.le_refl _) (Nat.le_refl _)
theorem tX13_glass_b190 {l : Launch} {G : gg} {Γ : ly} {d : Nat} {Q : Option Value → ly → mm → Prop} (hdd : 3 ≤ d) (σ : mm)     (r : (Int32 × mm)) (h : fX13_glass_b190 Γ.2 σ  = some r) (hQ : Q (some (.int r.1)) Γ r.2) : WP l G yX13_glass cX13_glass 3 (some .int) d 0 0 Q 0 0 190 [] [] Γ σ := by
  unfold fX13_glass_b190 at h
  refine r_iconst (v := 0) dX13_glass_190 (by decide) ?_
  refine r_goto 206 dX13_glass_191 (by decide) ?_
  exact tX13_glass_b206 hdd σ (0 : Int32)  _ h hQ
theorem kX13_glass {l : Launch} {G : gg} {Γ : ly} {σ : mm} (d : Nat) (hdd : 3 ≤ d) (x0 : Nat) (x1 : Int32) (x2 : Int32) (t0 : tyOK Γ (0, 12) x0) (r : (Int32 × mm)) (h : fX13_glass Γ.2 σ x0 x1 x2 = some r) : CT l G yX13_glass cX13_glass 3 (some .int) d 0 0 [.ref (G.2.1 x0), .int x1, .int x2] Γ σ (PP (some (.int r.1)) Γ r.2) := by
  refine CT.ofWP (by decide) (Nat.le_of_ble_eq_true rfl) ?_
  have hQ : PP (some (.int r.1)) Γ r.2 (some (.int r.1)) Γ r.2 := PP.self
  generalize PP (some (.int r.1)) Γ r.2 = Q at hQ ⊢
  show WP l G yX13_glass cX13_glass 3 (some .int) d 0 0 Q 0 0 0 [(0, .ref (G.2.1 x0)), (1, .int x1), (2, .int x2)] [] Γ σ
  unfold fX13_glass at h
  refine r_aload_n 0 dX13_glass_0 rfl ?_
  refine r_iconst (v := 0) dX13_glass_1 (by decide) ?_
  refine q_putI dX13_glass_2 fd_X13_1 t0 h (fun τ1 h => ?_)
  refine r_aload_n 0 dX13_glass_5 rfl ?_
  refine r_iload_n 1 dX13_glass_6 rfl ?_
  obtain ⟨v2, ev2, h⟩ := bd0_some h
  refine q_cVI [.int x1] dX13_glass_7 cv_X13_258 (ci := 12) rfl rfl t0 rfl rfl (Nat.le_of_ble_eq_true rfl) (by omega) (kX13_isGlass (d - 1) (by omega) x0 x1 t0 v2 ev2) ?_
  refine r_if_ne 18 dX13_glass_10 (by decide) h (fun _ h => ?_) (fun _ h => ?_)
  · refine r_iload_n 2 dX13_glass_18 rfl ?_
    rcases if_split h with ⟨q9, h⟩ | ⟨n0, h⟩
    · refine r_table (0 : Int32) 53 72 dX13_glass_19 q9 (by decide) (by decide) rfl (by decide) ?_
      refine r_aload_n 0 dX13_glass_72 rfl ?_
      refine q_getR (e9 := (1, 0)) dX13_glass_73 fd_X13_98 t0 rfl h (fun r3 tr3 h => ?_)
      refine r_bipush (v := 56) dX13_glass_76 (by decide) ?_
      refine r_iload_n 1 dX13_glass_78 rfl ?_
      refine r_iadd dX13_glass_79 ?_
      refine q_iald dX13_glass_80 tr3 h (fun v4 h => ?_)
      obtain rfl := Option.some.inj h
      exact r_ireturn dX13_glass_81 rfl hQ (Nat.le_refl _) (Nat.le_refl _)
    rcases if_split h with ⟨q9, h⟩ | ⟨n1, h⟩
    · refine r_table (1 : Int32) 63 82 dX13_glass_19 q9 (by decide) (by decide) rfl (by decide) ?_
      refine r_aload_n 0 dX13_glass_82 rfl ?_
      refine q_getR (e9 := (1, 0)) dX13_glass_83 fd_X13_98 t0 rfl h (fun r5 tr5 h => ?_)
      refine r_bipush (v := 60) dX13_glass_86 (by decide) ?_
      refine r_iload_n 1 dX13_glass_88 rfl ?_
      refine r_iadd dX13_glass_89 ?_
      refine q_iald dX13_glass_90 tr5 h (fun v6 h => ?_)
      obtain rfl := Option.some.inj h
      exact r_ireturn dX13_glass_91 rfl hQ (Nat.le_refl _) (Nat.le_refl _)
    rcases if_split h with ⟨q9, h⟩ | ⟨n2, h⟩
    · refine r_table (2 : Int32) 73 92 dX13_glass_19 q9 (by decide) (by decide) rfl (by decide) ?_
      refine r_aload_n 0 dX13_glass_92 rfl ?_
      refine q_getR (e9 := (1, 0)) dX13_glass_93 fd_X13_98 t0 rfl h (fun r7 tr7 h => ?_)
      refine r_bipush (v := 64) dX13_glass_96 (by decide) ?_
      refine r_iload_n 1 dX13_glass_98 rfl ?_
      refine r_iadd dX13_glass_99 ?_
      refine q_iald dX13_glass_100 tr7 h (fun v8 h => ?_)
      obtain rfl := Option.some.inj h
      exact r_ireturn dX13_glass_101 rfl hQ (Nat.le_refl _) (Nat.le_refl _)
    rcases if_split h with ⟨q9, h⟩ | ⟨n3, h⟩
    · refine r_table (3 : Int32) 83 102 dX13_glass_19 q9 (by decide) (by decide) rfl (by decide) ?_
      refine r_aload_n 0 dX13_glass_102 rfl ?_
      refine q_getR (e9 := (1, 0)) dX13_glass_103 fd_X13_98 t0 rfl h (fun r9 tr9 h => ?_)
      refine r_bipush (v := 121) dX13_glass_106 (by decide) ?_
      refine r_iload_n 1 dX13_glass_108 rfl ?_
      refine r_iadd dX13_glass_109 ?_
      refine q_iald dX13_glass_110 tr9 h (fun v10 h => ?_)
      obtain rfl := Option.some.inj h
      exact r_ireturn dX13_glass_111 rfl hQ (Nat.le_refl _) (Nat.le_refl _)
    rcases if_split h with ⟨q9, h⟩ | ⟨n4, h⟩
    · refine r_table (4 : Int32) 93 112 dX13_glass_19 q9 (by decide) (by decide) rfl (by decide) ?_
      refine r_aload_n 0 dX13_glass_112 rfl ?_
      refine q_getR (e9 := (1, 0)) dX13_glass_113 fd_X13_98 t0 rfl h (fun r11 tr11 h => ?_)
      refine r_bipush (v := 125) dX13_glass_116 (by decide) ?_
      refine r_iload_n 1 dX13_glass_118 rfl ?_
      refine r_iadd dX13_glass_119 ?_
      refine q_iald dX13_glass_120 tr11 h (fun v12 h => ?_)
      obtain rfl := Option.some.inj h
      exact r_ireturn dX13_glass_121 rfl hQ (Nat.le_refl _) (Nat.le_refl _)
    rcases if_split h with ⟨q9, h⟩ | ⟨n5, h⟩
    · refine r_table (5 : Int32) 103 122 dX13_glass_19 q9 (by decide) (by decide) rfl (by decide) ?_
      refine r_aload_n 0 dX13_glass_122 rfl ?_
      refine q_getR (e9 := (1, 0)) dX13_glass_123 fd_X13_98 t0 rfl h (fun r13 tr13 h => ?_)
      refine r_sipush (v := 129) dX13_glass_126 (by decide) ?_
      refine r_iload_n 1 dX13_glass_129 rfl ?_
      refine r_iadd dX13_glass_130 ?_
      refine q_iald dX13_glass_131 tr13 h (fun v14 h => ?_)
      obtain rfl := Option.some.inj h
      exact r_ireturn dX13_glass_132 rfl hQ (Nat.le_refl _) (Nat.le_refl _)
    rcases if_split h with ⟨q9, h⟩ | ⟨n6, h⟩
    · refine r_table (6 : Int32) 114 133 dX13_glass_19 q9 (by decide) (by decide) rfl (by decide) ?_
      refine r_aload_n 0 dX13_glass_133 rfl ?_
      refine r_iload_n 1 dX13_glass_134 rfl ?_
      obtain ⟨v15, ev15, h⟩ := bd0_some h
      refine q_cVI [.int x1] dX13_glass_135 cv_X13_261 (ci := 12) rfl rfl t0 rfl rfl (Nat.le_of_ble_eq_true rfl) (by omega) (kX13_isLapsed (d - 1) (by omega) x0 x1 t0 v15 ev15) ?_
      refine r_if_eq 145 dX13_glass_138 (by decide) h (fun _ h => ?_) (fun _ h => ?_)
      · refine r_iconst (v := 0) dX13_glass_145 (by decide) ?_
        refine r_pick [] rfl ?_
        exact tX13_glass_b146 hdd τ1 (0 : Int32)  _ h hQ
      · refine r_iconst (v := 1) dX13_glass_141 (by decide) ?_
        refine r_goto 146 dX13_glass_142 (by decide) ?_
        refine r_pick [] rfl ?_
        exact tX13_glass_b146 hdd τ1 (1 : Int32)  _ h hQ
    rcases if_split h with ⟨q9, h⟩ | ⟨n7, h⟩
    · refine r_table (7 : Int32) 128 147 dX13_glass_19 q9 (by decide) (by decide) rfl (by decide) ?_
      refine r_aload_n 0 dX13_glass_147 rfl ?_
      refine q_getR (e9 := (1, 0)) dX13_glass_148 fd_X13_98 t0 rfl h (fun r16 tr16 h => ?_)
      refine r_sipush (v := 133) dX13_glass_151 (by decide) ?_
      refine r_iload_n 1 dX13_glass_154 rfl ?_
      refine r_iadd dX13_glass_155 ?_
      refine q_iald dX13_glass_156 tr16 h (fun v17 h => ?_)
      obtain rfl := Option.some.inj h
      exact r_ireturn dX13_glass_157 rfl hQ (Nat.le_refl _) (Nat.le_refl _)
    rcases if_split h with ⟨q9, h⟩ | ⟨n8, h⟩
    · refine r_table (8 : Int32) 139 158 dX13_glass_19 q9 (by decide) (by decide) rfl (by decide) ?_
      refine r_aload_n 0 dX13_glass_158 rfl ?_
      refine q_getR (e9 := (1, 0)) dX13_glass_159 fd_X13_98 t0 rfl h (fun r18 tr18 h => ?_)
      refine r_sipush (v := 137) dX13_glass_162 (by decide) ?_
      refine r_iload_n 1 dX13_glass_165 rfl ?_
      refine r_iadd dX13_glass_166 ?_
      refine q_iald dX13_glass_167 tr18 h (fun v19 h => ?_)
      obtain rfl := Option.some.inj h
      exact r_ireturn dX13_glass_168 rfl hQ (Nat.le_refl _) (Nat.le_refl _)
    rcases if_split h with ⟨q9, h⟩ | ⟨n9, h⟩
    · refine r_table (9 : Int32) 150 169 dX13_glass_19 q9 (by decide) (by decide) rfl (by decide) ?_
      refine r_aload_n 0 dX13_glass_169 rfl ?_
      refine r_iload_n 1 dX13_glass_170 rfl ?_
      obtain ⟨v20, ev20, h⟩ := bd0_some h
      refine q_cVI [.int x1] dX13_glass_171 cv_X13_261 (ci := 12) rfl rfl t0 rfl rfl (Nat.le_of_ble_eq_true rfl) (by omega) (kX13_isLapsed (d - 1) (by omega) x0 x1 t0 v20 ev20) ?_
      refine r_if_ne 190 dX13_glass_174 (by decide) h (fun _ h => ?_) (fun _ h => ?_)
      · refine r_pick [] rfl ?_
        exact tX13_glass_b190 hdd τ1  _ h hQ
      · refine r_aload_n 0 dX13_glass_177 rfl ?_
        refine q_getR (e9 := (1, 0)) dX13_glass_178 fd_X13_98 t0 rfl h (fun r21 tr21 h => ?_)
        refine r_bipush (v := 102) dX13_glass_181 (by decide) ?_
        refine q_iald dX13_glass_183 tr21 h (fun v22 h => ?_)
        refine r_sipush (v := 600) dX13_glass_184 (by decide) ?_
        refine r_icmp_ne 194 dX13_glass_187 (by decide) h (fun _ h => ?_) (fun _ h => ?_)
        · refine r_aload_n 0 dX13_glass_194 rfl ?_
          refine r_iload_n 1 dX13_glass_195 rfl ?_
          refine r_aload_n 0 dX13_glass_196 rfl ?_
          refine q_getR (e9 := (1, 0)) dX13_glass_197 fd_X13_98 t0 rfl h (fun r23 tr23 h => ?_)
          refine r_bipush (v := 102) dX13_glass_200 (by decide) ?_
          refine q_iald dX13_glass_202 tr23 h (fun v24 h => ?_)
          obtain ⟨v25, ev25, h⟩ := bd0_some h
          refine q_cVI [.int x1, .int v24] dX13_glass_203 cv_X13_264 (ci := 12) rfl rfl t0 rfl rfl (Nat.le_of_ble_eq_true rfl) (by omega) (kX13_runs (d - 1) (by omega) x0 x1 v24 t0 v25 ev25) ?_
          refine r_pick [] rfl ?_
          exact tX13_glass_b206 hdd τ1 v25  _ h hQ
        · refine r_pick [] rfl ?_
          exact tX13_glass_b190 hdd τ1  _ h hQ
    have n0 := ne_int n0 (z := 0) rfl
    have n1 := ne_int n1 (z := 1) rfl
    have n2 := ne_int n2 (z := 2) rfl
    have n3 := ne_int n3 (z := 3) rfl
    have n4 := ne_int n4 (z := 4) rfl
    have n5 := ne_int n5 (z := 5) rfl
    have n6 := ne_int n6 (z := 6) rfl
    have n7 := ne_int n7 (z := 7) rfl
    have n8 := ne_int n8 (z := 8) rfl
    have n9 := ne_int n9 (z := 9) rfl
    refine r_tableD 207 dX13_glass_19 (by omega) (by decide) ?_
    refine r_aload_n 0 dX13_glass_207 rfl ?_
    obtain ⟨v26, τ27, ev26, h⟩ := bd2_some h
    refine q_cVI [] dX13_glass_208 cv_X13_249 (ci := 12) rfl rfl t0 rfl rfl (Nat.le_of_ble_eq_true rfl) (by omega) (kX13_refuse (d - 1) (by omega) x0 t0 (v26, τ27) ev26) ?_
    obtain rfl := Option.some.inj h
    exact r_ireturn dX13_glass_211 rfl hQ (Nat.le_refl _) (Nat.le_refl _)
  · refine r_aload_n 0 dX13_glass_13 rfl ?_
    obtain ⟨v28, τ29, ev28, h⟩ := bd2_some h
    refine q_cVI [] dX13_glass_14 cv_X13_249 (ci := 12) rfl rfl t0 rfl rfl (Nat.le_of_ble_eq_true rfl) (by omega) (kX13_refuse (d - 1) (by omega) x0 t0 (v28, τ29) ev28) ?_
    obtain rfl := Option.some.inj h
    exact r_ireturn dX13_glass_17 rfl hQ (Nat.le_refl _) (Nat.le_refl _)
theorem tX13_now_b75 {l : Launch} {G : gg} {Γ : ly} {d : Nat} {Q : Option Value → ly → mm → Prop} (hdd : 2 ≤ d) (σ : mm)  (s0 : Int32)   (r : (Int32 × mm)) (h : fX13_now_b75 Γ.2 σ s0 = some r) (hQ : Q (some (.int r.1)) Γ r.2) : WP l G yX13_now cX13_now 4 (some .int) d 0 0 Q 0 0 75 [] [.int s0] Γ σ := by
  unfold fX13_now_b75 at h
  obtain rfl := Option.some.inj h
  exact r_ireturn dX13_now_75 rfl hQ (Nat.le_refl _) (Nat.le_refl _)
theorem tX13_now_b117 {l : Launch} {G : gg} {Γ : ly} {d : Nat} {Q : Option Value → ly → mm → Prop} (hdd : 2 ≤ d) (σ : mm) (x0 : Nat) (x2 : Int32) (x3 : Int32)  (t0 : tyOK Γ (0, 12) x0)  (r : ((Int32 × Int32) ⊕ Int32)) (h : fX13_now_b117 Γ.2 σ x0 x2 x3 = some r) (hb : ∀ (x2 : Int32) (x3 : Int32), r = .inl (x2, x3) → WP l G yX13_now cX13_now 4 (some .int) d 0 0 Q 0 0 86 [(0, .ref (G.2.1 x0)), (2, .int x2), (3, .int x3)] [] Γ σ) (hx0 : ∀ (x2 : Int32), r = .inr x2 → WP l G yX13_now cX13_now 4 (some .int) d 0 0 Q 0 0 123 [(2, .int x2)] [] Γ σ) : WP l G yX13_now cX13_now 4 (some .int) d 0 0 Q 0 0 117 [(0, .ref (G.2.1 x0)), (2, .int x2), (3, .int x3)] [] Γ σ := by
  unfold fX13_now_b117 at h
  refine q_iinc (v := 1) 2 (fun v1 => [(3, .int v1), (0, .ref (G.2.1 x0)), (2, .int x2)]) dX13_now_117 rfl (by decide) (by decide) (fun _ => rfl) h (fun v1 h => ?_)
  refine r_goto 86 dX13_now_120 (by decide) ?_
  obtain rfl := Option.some.inj h
  refine r_pick [1, 2, 0] rfl ?_
  exact hb _ _ rfl
theorem sX13_now_L86 {l : Launch} {G : gg} {Γ : ly} {d : Nat} {Q : Option Value → ly → mm → Prop} (hdd : 2 ≤ d) (σ : mm) (x0 : Nat) (t0 : tyOK Γ (0, 12) x0) {K : Int32 → Prop} (kx0 : ∀ (x2 : Int32), K x2 → WP l G yX13_now cX13_now 4 (some .int) d 0 0 Q 0 0 123 [(2, .int x2)] [] Γ σ) : ∀ (N : Nat) (s : (Int32 × Int32)) (b : Int32), loopN (fX13_now_L86 Γ.2 σ x0) N s = some b → K b → WP l G yX13_now cX13_now 4 (some .int) d 0 0 Q 0 0 86 [(0, .ref (G.2.1 x0)), (2, .int s.1), (3, .int s.2)] [] Γ σ := by
  refine r_loop (f := fX13_now_L86 Γ.2 σ x0) (hlv := fun s => [(0, .ref (G.2.1 x0)), (2, .int s.1), (3, .int s.2)]) (hsg := fun s => σ) ?_
  rintro ⟨x2, x3⟩ r h hb hx
  have hb : ∀ (x2 : Int32) (x3 : Int32), r = .inl (x2, x3) → WP l G yX13_now cX13_now 4 (some .int) d 0 0 Q 0 0 86 [(0, .ref (G.2.1 x0)), (2, .int x2), (3, .int x3)] [] Γ σ := fun x2 x3 e => hb (x2, x3) e
  have hx0 : ∀ (x2 : Int32), r = .inr x2 → WP l G yX13_now cX13_now 4 (some .int) d 0 0 Q 0 0 123 [(2, .int x2)] [] Γ σ := fun x2 e => kx0 x2 (hx _ e)
  unfold fX13_now_L86 at h
  have h := un2_some h
  show WP l G yX13_now cX13_now 4 (some .int) d 0 0 Q 0 0 86 [(0, .ref (G.2.1 x0)), (2, .int x2), (3, .int x3)] [] Γ σ
  refine r_iload_n 2 dX13_now_86 rfl ?_
  refine r_aload_n 0 dX13_now_87 rfl ?_
  refine q_getR (e9 := (1, 0)) dX13_now_88 fd_X13_98 t0 rfl h (fun r1 tr1 h => ?_)
  refine r_iconst (v := 0) dX13_now_91 (by decide) ?_
  refine q_iald dX13_now_92 tr1 h (fun v2 h => ?_)
  refine r_icmp_ge 123 dX13_now_93 (by decide) h (fun _ h => ?_) (fun _ h => ?_)
  · obtain rfl := Option.some.inj h
    refine r_pick [1] rfl ?_
    exact hx0 _ rfl
  · refine r_aload_n 0 dX13_now_96 rfl ?_
    refine r_iload_n 2 dX13_now_97 rfl ?_
    refine r_aload_n 0 dX13_now_98 rfl ?_
    refine q_getR (e9 := (1, 0)) dX13_now_99 fd_X13_98 t0 rfl h (fun r3 tr3 h => ?_)
    refine r_bipush (v := 102) dX13_now_102 (by decide) ?_
    refine q_iald dX13_now_104 tr3 h (fun v4 h => ?_)
    obtain ⟨v5, ev5, h⟩ := bd0_some h
    refine q_cVI [.int x3, .int v4] dX13_now_105 cv_X13_234 (ci := 12) rfl rfl t0 rfl rfl (Nat.le_of_ble_eq_true rfl) (by omega) (kX13_isAwake (d - 1) (by omega) x0 x3 v4 t0 v5 ev5) ?_
    refine r_if_eq 117 dX13_now_108 (by decide) h (fun _ h => ?_) (fun _ h => ?_)
    · exact tX13_now_b117 hdd σ x0 x2 x3 t0 _ h hb hx0
    · refine r_iload_n 1 dX13_now_111 rfl ?_
      refine r_iconst (v := 1) dX13_now_112 (by decide) ?_
      refine r_iload_n 2 dX13_now_113 rfl ?_
      refine r_ishl dX13_now_114 ?_
      refine r_ior dX13_now_115 ?_
      refine q_nmI h (fun v6 h => ?_)
      refine r_istore_n (lv' := [(2, .int v6), (0, .ref (G.2.1 x0)), (3, .int x3)]) dX13_now_116 (by decide) rfl ?_
      refine r_pick [1, 0, 2] rfl ?_
      exact tX13_now_b117 hdd σ x0 v6 x3 t0 _ h hb hx0
theorem sX13_now_L127 {l : Launch} {G : gg} {Γ : ly} {d : Nat} {Q : Option Value → ly → mm → Prop} (hdd : 2 ≤ d) (σ : mm) (x0 : Nat) (t0 : tyOK Γ (0, 12) x0) {K : Int32 → Prop} (kx0 : ∀ (x2 : Int32), K x2 → WP l G yX13_now cX13_now 4 (some .int) d 0 0 Q 0 0 156 [(2, .int x2)] [] Γ σ) : ∀ (N : Nat) (s : (Int32 × Int32)) (b : Int32), loopN (fX13_now_L127 Γ.2 σ x0) N s = some b → K b → WP l G yX13_now cX13_now 4 (some .int) d 0 0 Q 0 0 127 [(0, .ref (G.2.1 x0)), (2, .int s.1), (3, .int s.2)] [] Γ σ := by
  refine r_loop (f := fX13_now_L127 Γ.2 σ x0) (hlv := fun s => [(0, .ref (G.2.1 x0)), (2, .int s.1), (3, .int s.2)]) (hsg := fun s => σ) ?_
  rintro ⟨x2, x3⟩ r h hb hx
  have hb : ∀ (x2 : Int32) (x3 : Int32), r = .inl (x2, x3) → WP l G yX13_now cX13_now 4 (some .int) d 0 0 Q 0 0 127 [(0, .ref (G.2.1 x0)), (2, .int x2), (3, .int x3)] [] Γ σ := fun x2 x3 e => hb (x2, x3) e
  have hx0 : ∀ (x2 : Int32), r = .inr x2 → WP l G yX13_now cX13_now 4 (some .int) d 0 0 Q 0 0 156 [(2, .int x2)] [] Γ σ := fun x2 e => kx0 x2 (hx _ e)
  unfold fX13_now_L127 at h
  have h := un2_some h
  show WP l G yX13_now cX13_now 4 (some .int) d 0 0 Q 0 0 127 [(0, .ref (G.2.1 x0)), (2, .int x2), (3, .int x3)] [] Γ σ
  refine r_iload_n 2 dX13_now_127 rfl ?_
  refine r_aload_n 0 dX13_now_128 rfl ?_
  refine q_getR (e9 := (1, 0)) dX13_now_129 fd_X13_98 t0 rfl h (fun r1 tr1 h => ?_)
  refine r_iconst (v := 1) dX13_now_132 (by decide) ?_
  refine q_iald dX13_now_133 tr1 h (fun v2 h => ?_)
  refine r_icmp_ge 156 dX13_now_134 (by decide) h (fun _ h => ?_) (fun _ h => ?_)
  · obtain rfl := Option.some.inj h
    refine r_pick [1] rfl ?_
    exact hx0 _ rfl
  · refine r_iload_n 1 dX13_now_137 rfl ?_
    refine r_aload_n 0 dX13_now_138 rfl ?_
    refine q_getR (e9 := (1, 0)) dX13_now_139 fd_X13_98 t0 rfl h (fun r3 tr3 h => ?_)
    refine r_sipush (v := 137) dX13_now_142 (by decide) ?_
    refine r_iload_n 2 dX13_now_145 rfl ?_
    refine r_iadd dX13_now_146 ?_
    refine q_iald dX13_now_147 tr3 h (fun v4 h => ?_)
    refine r_iadd dX13_now_148 ?_
    refine q_nmI h (fun v5 h => ?_)
    refine r_istore_n (lv' := [(2, .int v5), (0, .ref (G.2.1 x0)), (3, .int x3)]) dX13_now_149 (by decide) rfl ?_
    refine q_iinc (v := 1) 2 (fun v6 => [(3, .int v6), (2, .int v5), (0, .ref (G.2.1 x0))]) dX13_now_150 rfl (by decide) (by decide) (fun _ => rfl) h (fun v6 h => ?_)
    refine r_goto 127 dX13_now_153 (by decide) ?_
    obtain rfl := Option.some.inj h
    refine r_pick [2, 1, 0] rfl ?_
    exact hb _ _ rfl
theorem sX13_now_L160 {l : Launch} {G : gg} {Γ : ly} {d : Nat} {Q : Option Value → ly → mm → Prop} (hdd : 2 ≤ d) (σ : mm) (x0 : Nat) (t0 : tyOK Γ (0, 12) x0) {K : Int32 → Prop} (kx0 : ∀ (x2 : Int32), K x2 → WP l G yX13_now cX13_now 4 (some .int) d 0 0 Q 0 0 188 [(2, .int x2)] [] Γ σ) : ∀ (N : Nat) (s : (Int32 × Int32)) (b : Int32), loopN (fX13_now_L160 Γ.2 σ x0) N s = some b → K b → WP l G yX13_now cX13_now 4 (some .int) d 0 0 Q 0 0 160 [(0, .ref (G.2.1 x0)), (2, .int s.1), (3, .int s.2)] [] Γ σ := by
  refine r_loop (f := fX13_now_L160 Γ.2 σ x0) (hlv := fun s => [(0, .ref (G.2.1 x0)), (2, .int s.1), (3, .int s.2)]) (hsg := fun s => σ) ?_
  rintro ⟨x2, x3⟩ r h hb hx
  have hb : ∀ (x2 : Int32) (x3 : Int32), r = .inl (x2, x3) → WP l G yX13_now cX13_now 4 (some .int) d 0 0 Q 0 0 160 [(0, .ref (G.2.1 x0)), (2, .int x2), (3, .int x3)] [] Γ σ := fun x2 x3 e => hb (x2, x3) e
  have hx0 : ∀ (x2 : Int32), r = .inr x2 → WP l G yX13_now cX13_now 4 (some .int) d 0 0 Q 0 0 188 [(2, .int x2)] [] Γ σ := fun x2 e => kx0 x2 (hx _ e)
  unfold fX13_now_L160 at h
  have h := un2_some h
  show WP l G yX13_now cX13_now 4 (some .int) d 0 0 Q 0 0 160 [(0, .ref (G.2.1 x0)), (2, .int x2), (3, .int x3)] [] Γ σ
  refine r_iload_n 2 dX13_now_160 rfl ?_
  refine r_aload_n 0 dX13_now_161 rfl ?_
  refine q_getR (e9 := (1, 0)) dX13_now_162 fd_X13_98 t0 rfl h (fun r1 tr1 h => ?_)
  refine r_iconst (v := 1) dX13_now_165 (by decide) ?_
  refine q_iald dX13_now_166 tr1 h (fun v2 h => ?_)
  refine r_icmp_ge 188 dX13_now_167 (by decide) h (fun _ h => ?_) (fun _ h => ?_)
  · obtain rfl := Option.some.inj h
    refine r_pick [1] rfl ?_
    exact hx0 _ rfl
  · refine r_iload_n 1 dX13_now_170 rfl ?_
    refine r_aload_n 0 dX13_now_171 rfl ?_
    refine q_getR (e9 := (1, 0)) dX13_now_172 fd_X13_98 t0 rfl h (fun r3 tr3 h => ?_)
    refine r_bipush (v := 125) dX13_now_175 (by decide) ?_
    refine r_iload_n 2 dX13_now_177 rfl ?_
    refine r_iadd dX13_now_178 ?_
    refine q_iald dX13_now_179 tr3 h (fun v4 h => ?_)
    refine r_iadd dX13_now_180 ?_
    refine q_nmI h (fun v5 h => ?_)
    refine r_istore_n (lv' := [(2, .int v5), (0, .ref (G.2.1 x0)), (3, .int x3)]) dX13_now_181 (by decide) rfl ?_
    refine q_iinc (v := 1) 2 (fun v6 => [(3, .int v6), (2, .int v5), (0, .ref (G.2.1 x0))]) dX13_now_182 rfl (by decide) (by decide) (fun _ => rfl) h (fun v6 h => ?_)
    refine r_goto 160 dX13_now_185 (by decide) ?_
    obtain rfl := Option.some.inj h
    refine r_pick [2, 1, 0] rfl ?_
    exact hb _ _ rfl
theorem kX13_now {l : Launch} {G : gg} {Γ : ly} {σ : mm} (d : Nat) (hdd : 2 ≤ d) (x0 : Nat) (x1 : Int32) (t0 : tyOK Γ (0, 12) x0) (r : (Int32 × mm)) (h : fX13_now Γ.2 σ x0 x1 = some r) : CT l G yX13_now cX13_now 4 (some .int) d 0 0 [.ref (G.2.1 x0), .int x1] Γ σ (PP (some (.int r.1)) Γ r.2) := by
  refine CT.ofWP (by decide) (Nat.le_of_ble_eq_true rfl) ?_
  have hQ : PP (some (.int r.1)) Γ r.2 (some (.int r.1)) Γ r.2 := PP.self
  generalize PP (some (.int r.1)) Γ r.2 = Q at hQ ⊢
  show WP l G yX13_now cX13_now 4 (some .int) d 0 0 Q 0 0 0 [(0, .ref (G.2.1 x0)), (1, .int x1)] [] Γ σ
  unfold fX13_now at h
  refine r_aload_n 0 dX13_now_0 rfl ?_
  refine r_iconst (v := 0) dX13_now_1 (by decide) ?_
  refine q_putI dX13_now_2 fd_X13_1 t0 h (fun τ1 h => ?_)
  refine r_iconst (v := 0) dX13_now_5 (by decide) ?_
  refine r_istore_n (lv' := [(2, .int (0 : Int32)), (0, .ref (G.2.1 x0)), (1, .int x1)]) dX13_now_6 (by decide) rfl ?_
  refine r_iload_n 2 dX13_now_7 rfl ?_
  rcases if_split h with ⟨q9, h⟩ | ⟨n0, h⟩
  · refine r_table (0 : Int32) 40 48 dX13_now_8 q9 (by decide) (by decide) rfl (by decide) ?_
    refine r_aload_n 1 dX13_now_48 rfl ?_
    refine q_getR (e9 := (1, 0)) dX13_now_49 fd_X13_98 t0 rfl h (fun r2 tr2 h => ?_)
    refine r_bipush (v := 102) dX13_now_52 (by decide) ?_
    refine q_iald dX13_now_54 tr2 h (fun v3 h => ?_)
    obtain rfl := Option.some.inj h
    exact r_ireturn dX13_now_55 rfl hQ (Nat.le_refl _) (Nat.le_refl _)
  rcases if_split h with ⟨q9, h⟩ | ⟨n1, h⟩
  · refine r_table (1 : Int32) 48 56 dX13_now_8 q9 (by decide) (by decide) rfl (by decide) ?_
    refine r_aload_n 1 dX13_now_56 rfl ?_
    refine r_aload_n 1 dX13_now_57 rfl ?_
    refine q_getR (e9 := (1, 0)) dX13_now_58 fd_X13_98 t0 rfl h (fun r4 tr4 h => ?_)
    refine r_bipush (v := 102) dX13_now_61 (by decide) ?_
    refine q_iald dX13_now_63 tr4 h (fun v5 h => ?_)
    obtain ⟨v6, ev6, h⟩ := bd0_some h
    refine q_cVI [.int v5] dX13_now_64 cv_X13_243 (ci := 12) rfl rfl t0 rfl rfl (Nat.le_of_ble_eq_true rfl) (by omega) (kX13_isDamp (d - 1) (by omega) x0 v5 t0 v6 ev6) ?_
    refine r_if_eq 74 dX13_now_67 (by decide) h (fun _ h => ?_) (fun _ h => ?_)
    · refine r_iconst (v := 0) dX13_now_74 (by decide) ?_
      refine r_pick [] rfl ?_
      exact tX13_now_b75 hdd τ1 (0 : Int32)  _ h hQ
    · refine r_iconst (v := 1) dX13_now_70 (by decide) ?_
      refine r_goto 75 dX13_now_71 (by decide) ?_
      refine r_pick [] rfl ?_
      exact tX13_now_b75 hdd τ1 (1 : Int32)  _ h hQ
  rcases if_split h with ⟨q9, h⟩ | ⟨n2, h⟩
  · refine r_table (2 : Int32) 68 76 dX13_now_8 q9 (by decide) (by decide) rfl (by decide) ?_
    refine r_aload_n 1 dX13_now_76 rfl ?_
    refine q_getR (e9 := (1, 0)) dX13_now_77 fd_X13_98 t0 rfl h (fun r7 tr7 h => ?_)
    refine r_bipush (v := 104) dX13_now_80 (by decide) ?_
    refine q_iald dX13_now_82 tr7 h (fun v8 h => ?_)
    obtain rfl := Option.some.inj h
    exact r_ireturn dX13_now_83 rfl hQ (Nat.le_refl _) (Nat.le_refl _)
  rcases if_split h with ⟨q9, h⟩ | ⟨n3, h⟩
  · refine r_table (3 : Int32) 76 84 dX13_now_8 q9 (by decide) (by decide) rfl (by decide) ?_
    refine r_iconst (v := 0) dX13_now_84 (by decide) ?_
    refine r_istore_n (lv' := [(3, .int (0 : Int32)), (2, .int (0 : Int32)), (0, .ref (G.2.1 x0)), (1, .int x1)]) dX13_now_85 (by decide) rfl ?_
    obtain ⟨b9, eb9, h⟩ := bd0_some h
    refine r_pick [2, 1, 0] rfl ?_
    refine sX13_now_L86 hdd τ1 x0 t0 (K := fun b => b = b9) ?_ 1000 ((0 : Int32), (0 : Int32)) b9 eb9 rfl
    rintro v10 rfl
    refine r_iload_n 0 dX13_now_123 rfl ?_
    obtain rfl := Option.some.inj h
    exact r_ireturn dX13_now_124 rfl hQ (Nat.le_refl _) (Nat.le_refl _)
  rcases if_split h with ⟨q9, h⟩ | ⟨n4, h⟩
  · refine r_table (4 : Int32) 117 125 dX13_now_8 q9 (by decide) (by decide) rfl (by decide) ?_
    refine r_iconst (v := 0) dX13_now_125 (by decide) ?_
    refine r_istore_n (lv' := [(3, .int (0 : Int32)), (2, .int (0 : Int32)), (0, .ref (G.2.1 x0)), (1, .int x1)]) dX13_now_126 (by decide) rfl ?_
    obtain ⟨b11, eb11, h⟩ := bd0_some h
    refine r_pick [2, 1, 0] rfl ?_
    refine sX13_now_L127 hdd τ1 x0 t0 (K := fun b => b = b11) ?_ 1000 ((0 : Int32), (0 : Int32)) b11 eb11 rfl
    rintro v12 rfl
    refine r_iload_n 0 dX13_now_156 rfl ?_
    obtain rfl := Option.some.inj h
    exact r_ireturn dX13_now_157 rfl hQ (Nat.le_refl _) (Nat.le_refl _)
  rcases if_split h with ⟨q9, h⟩ | ⟨n5, h⟩
  · refine r_table (5 : Int32) 150 158 dX13_now_8 q9 (by decide) (by decide) rfl (by decide) ?_
    refine r_iconst (v := 0) dX13_now_158 (by decide) ?_
    refine r_istore_n (lv' := [(3, .int (0 : Int32)), (2, .int (0 : Int32)), (0, .ref (G.2.1 x0)), (1, .int x1)]) dX13_now_159 (by decide) rfl ?_
    obtain ⟨b13, eb13, h⟩ := bd0_some h
    refine r_pick [2, 1, 0] rfl ?_
    refine sX13_now_L160 hdd τ1 x0 t0 (K := fun b => b = b13) ?_ 1000 ((0 : Int32), (0 : Int32)) b13 eb13 rfl
    rintro v14 rfl
    refine r_iload_n 0 dX13_now_188 rfl ?_
    obtain rfl := Option.some.inj h
    exact r_ireturn dX13_now_189 rfl hQ (Nat.le_refl _) (Nat.le_refl _)
  have n0 := ne_int n0 (z := 0) rfl
  have n1 := ne_int n1 (z := 1) rfl
  have n2 := ne_int n2 (z := 2) rfl
  have n3 := ne_int n3 (z := 3) rfl
  have n4 := ne_int n4 (z := 4) rfl
  have n5 := ne_int n5 (z := 5) rfl
  refine r_tableD 190 dX13_now_8 (by omega) (by decide) ?_
  refine r_iconst (v := -1) dX13_now_190 (by decide) ?_
  obtain rfl := Option.some.inj h
  exact r_ireturn dX13_now_191 rfl hQ (Nat.le_refl _) (Nat.le_refl _)
