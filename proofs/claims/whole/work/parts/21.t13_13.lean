/-! the walks, 13 -/
theorem tX13_holds_b123 {l : Launch} {G : gg} {Γ : ly} {d : Nat} {Q : Option Value → ly → mm → Prop} (hdd : 2 ≤ d) {F : Nat → mm → Nat → Int32 → Int32 → Option Int32} {e : Nat} (hde : e + 1 ≤ d) (hF0 : ∀ (d : Nat), e ≤ d → ∀ (σ : mm) (x0 : Nat) (x1 : Int32) (x2 : Int32), tyOK Γ (0, 12) x0 → ∀ r, F 0 σ x0 x1 x2 = some r → CT l G yX13_holds cX13_holds 8 (some .boolean) d 0 0 [.ref (G.2.1 x0), .int x1, .int x2] Γ σ (PP (some (.int r)) Γ σ)) (σ : mm)  (s0 : Int32)   (r : Int32) (h : fX13_holds_b123 F Γ.2 σ s0 = some r) (hQ : Q (some (.int r)) Γ σ) : WP l G yX13_holds cX13_holds 8 (some .boolean) d 0 0 Q 0 0 123 [] [.int s0] Γ σ := by
  unfold fX13_holds_b123 at h
  obtain ⟨hbz, h⟩ := rZ_some h
  obtain rfl := Option.some.inj h
  exact r_zreturn dX13_holds_123 rfl hbz hQ (Nat.le_refl _) (Nat.le_refl _)
theorem tX13_holds_b149 {l : Launch} {G : gg} {Γ : ly} {d : Nat} {Q : Option Value → ly → mm → Prop} (hdd : 2 ≤ d) {F : Nat → mm → Nat → Int32 → Int32 → Option Int32} {e : Nat} (hde : e + 1 ≤ d) (hF0 : ∀ (d : Nat), e ≤ d → ∀ (σ : mm) (x0 : Nat) (x1 : Int32) (x2 : Int32), tyOK Γ (0, 12) x0 → ∀ r, F 0 σ x0 x1 x2 = some r → CT l G yX13_holds cX13_holds 8 (some .boolean) d 0 0 [.ref (G.2.1 x0), .int x1, .int x2] Γ σ (PP (some (.int r)) Γ σ)) (σ : mm)  (s0 : Int32)   (r : Int32) (h : fX13_holds_b149 F Γ.2 σ s0 = some r) (hQ : Q (some (.int r)) Γ σ) : WP l G yX13_holds cX13_holds 8 (some .boolean) d 0 0 Q 0 0 149 [] [.int s0] Γ σ := by
  unfold fX13_holds_b149 at h
  obtain ⟨hbz, h⟩ := rZ_some h
  obtain rfl := Option.some.inj h
  exact r_zreturn dX13_holds_149 rfl hbz hQ (Nat.le_refl _) (Nat.le_refl _)
theorem tX13_holds_b148 {l : Launch} {G : gg} {Γ : ly} {d : Nat} {Q : Option Value → ly → mm → Prop} (hdd : 2 ≤ d) {F : Nat → mm → Nat → Int32 → Int32 → Option Int32} {e : Nat} (hde : e + 1 ≤ d) (hF0 : ∀ (d : Nat), e ≤ d → ∀ (σ : mm) (x0 : Nat) (x1 : Int32) (x2 : Int32), tyOK Γ (0, 12) x0 → ∀ r, F 0 σ x0 x1 x2 = some r → CT l G yX13_holds cX13_holds 8 (some .boolean) d 0 0 [.ref (G.2.1 x0), .int x1, .int x2] Γ σ (PP (some (.int r)) Γ σ)) (σ : mm)     (r : Int32) (h : fX13_holds_b148 F Γ.2 σ  = some r) (hQ : Q (some (.int r)) Γ σ) : WP l G yX13_holds cX13_holds 8 (some .boolean) d 0 0 Q 0 0 148 [] [] Γ σ := by
  unfold fX13_holds_b148 at h
  refine r_iconst (v := 0) dX13_holds_148 (by decide) ?_
  exact tX13_holds_b149 hdd hde hF0 σ (0 : Int32)  _ h hQ
theorem tX13_holds_b175 {l : Launch} {G : gg} {Γ : ly} {d : Nat} {Q : Option Value → ly → mm → Prop} (hdd : 2 ≤ d) {F : Nat → mm → Nat → Int32 → Int32 → Option Int32} {e : Nat} (hde : e + 1 ≤ d) (hF0 : ∀ (d : Nat), e ≤ d → ∀ (σ : mm) (x0 : Nat) (x1 : Int32) (x2 : Int32), tyOK Γ (0, 12) x0 → ∀ r, F 0 σ x0 x1 x2 = some r → CT l G yX13_holds cX13_holds 8 (some .boolean) d 0 0 [.ref (G.2.1 x0), .int x1, .int x2] Γ σ (PP (some (.int r)) Γ σ)) (σ : mm)  (s0 : Int32)   (r : Int32) (h : fX13_holds_b175 F Γ.2 σ s0 = some r) (hQ : Q (some (.int r)) Γ σ) : WP l G yX13_holds cX13_holds 8 (some .boolean) d 0 0 Q 0 0 175 [] [.int s0] Γ σ := by
  unfold fX13_holds_b175 at h
  obtain ⟨hbz, h⟩ := rZ_some h
  obtain rfl := Option.some.inj h
  exact r_zreturn dX13_holds_175 rfl hbz hQ (Nat.le_refl _) (Nat.le_refl _)
theorem tX13_holds_b170 {l : Launch} {G : gg} {Γ : ly} {d : Nat} {Q : Option Value → ly → mm → Prop} (hdd : 2 ≤ d) {F : Nat → mm → Nat → Int32 → Int32 → Option Int32} {e : Nat} (hde : e + 1 ≤ d) (hF0 : ∀ (d : Nat), e ≤ d → ∀ (σ : mm) (x0 : Nat) (x1 : Int32) (x2 : Int32), tyOK Γ (0, 12) x0 → ∀ r, F 0 σ x0 x1 x2 = some r → CT l G yX13_holds cX13_holds 8 (some .boolean) d 0 0 [.ref (G.2.1 x0), .int x1, .int x2] Γ σ (PP (some (.int r)) Γ σ)) (σ : mm)     (r : Int32) (h : fX13_holds_b170 F Γ.2 σ  = some r) (hQ : Q (some (.int r)) Γ σ) : WP l G yX13_holds cX13_holds 8 (some .boolean) d 0 0 Q 0 0 170 [] [] Γ σ := by
  unfold fX13_holds_b170 at h
  refine r_iconst (v := 1) dX13_holds_170 (by decide) ?_
  refine r_goto 175 dX13_holds_171 (by decide) ?_
  exact tX13_holds_b175 hdd hde hF0 σ (1 : Int32)  _ h hQ
theorem tX13_holds_b199 {l : Launch} {G : gg} {Γ : ly} {d : Nat} {Q : Option Value → ly → mm → Prop} (hdd : 2 ≤ d) {F : Nat → mm → Nat → Int32 → Int32 → Option Int32} {e : Nat} (hde : e + 1 ≤ d) (hF0 : ∀ (d : Nat), e ≤ d → ∀ (σ : mm) (x0 : Nat) (x1 : Int32) (x2 : Int32), tyOK Γ (0, 12) x0 → ∀ r, F 0 σ x0 x1 x2 = some r → CT l G yX13_holds cX13_holds 8 (some .boolean) d 0 0 [.ref (G.2.1 x0), .int x1, .int x2] Γ σ (PP (some (.int r)) Γ σ)) (σ : mm)  (s0 : Int32)   (r : Int32) (h : fX13_holds_b199 F Γ.2 σ s0 = some r) (hQ : Q (some (.int r)) Γ σ) : WP l G yX13_holds cX13_holds 8 (some .boolean) d 0 0 Q 0 0 199 [] [.int s0] Γ σ := by
  unfold fX13_holds_b199 at h
  obtain ⟨hbz, h⟩ := rZ_some h
  obtain rfl := Option.some.inj h
  exact r_zreturn dX13_holds_199 rfl hbz hQ (Nat.le_refl _) (Nat.le_refl _)
theorem tX13_holds_b219 {l : Launch} {G : gg} {Γ : ly} {d : Nat} {Q : Option Value → ly → mm → Prop} (hdd : 2 ≤ d) {F : Nat → mm → Nat → Int32 → Int32 → Option Int32} {e : Nat} (hde : e + 1 ≤ d) (hF0 : ∀ (d : Nat), e ≤ d → ∀ (σ : mm) (x0 : Nat) (x1 : Int32) (x2 : Int32), tyOK Γ (0, 12) x0 → ∀ r, F 0 σ x0 x1 x2 = some r → CT l G yX13_holds cX13_holds 8 (some .boolean) d 0 0 [.ref (G.2.1 x0), .int x1, .int x2] Γ σ (PP (some (.int r)) Γ σ)) (σ : mm)  (s0 : Int32)   (r : Int32) (h : fX13_holds_b219 F Γ.2 σ s0 = some r) (hQ : Q (some (.int r)) Γ σ) : WP l G yX13_holds cX13_holds 8 (some .boolean) d 0 0 Q 0 0 219 [] [.int s0] Γ σ := by
  unfold fX13_holds_b219 at h
  obtain ⟨hbz, h⟩ := rZ_some h
  obtain rfl := Option.some.inj h
  exact r_zreturn dX13_holds_219 rfl hbz hQ (Nat.le_refl _) (Nat.le_refl _)
theorem tX13_holds_b271 {l : Launch} {G : gg} {Γ : ly} {d : Nat} {Q : Option Value → ly → mm → Prop} (hdd : 2 ≤ d) {F : Nat → mm → Nat → Int32 → Int32 → Option Int32} {e : Nat} (hde : e + 1 ≤ d) (hF0 : ∀ (d : Nat), e ≤ d → ∀ (σ : mm) (x0 : Nat) (x1 : Int32) (x2 : Int32), tyOK Γ (0, 12) x0 → ∀ r, F 0 σ x0 x1 x2 = some r → CT l G yX13_holds cX13_holds 8 (some .boolean) d 0 0 [.ref (G.2.1 x0), .int x1, .int x2] Γ σ (PP (some (.int r)) Γ σ)) (σ : mm)  (s0 : Int32)   (r : Int32) (h : fX13_holds_b271 F Γ.2 σ s0 = some r) (hQ : Q (some (.int r)) Γ σ) : WP l G yX13_holds cX13_holds 8 (some .boolean) d 0 0 Q 0 0 271 [] [.int s0] Γ σ := by
  unfold fX13_holds_b271 at h
  obtain ⟨hbz, h⟩ := rZ_some h
  obtain rfl := Option.some.inj h
  exact r_zreturn dX13_holds_271 rfl hbz hQ (Nat.le_refl _) (Nat.le_refl _)
theorem tX13_holds_b270 {l : Launch} {G : gg} {Γ : ly} {d : Nat} {Q : Option Value → ly → mm → Prop} (hdd : 2 ≤ d) {F : Nat → mm → Nat → Int32 → Int32 → Option Int32} {e : Nat} (hde : e + 1 ≤ d) (hF0 : ∀ (d : Nat), e ≤ d → ∀ (σ : mm) (x0 : Nat) (x1 : Int32) (x2 : Int32), tyOK Γ (0, 12) x0 → ∀ r, F 0 σ x0 x1 x2 = some r → CT l G yX13_holds cX13_holds 8 (some .boolean) d 0 0 [.ref (G.2.1 x0), .int x1, .int x2] Γ σ (PP (some (.int r)) Γ σ)) (σ : mm)     (r : Int32) (h : fX13_holds_b270 F Γ.2 σ  = some r) (hQ : Q (some (.int r)) Γ σ) : WP l G yX13_holds cX13_holds 8 (some .boolean) d 0 0 Q 0 0 270 [] [] Γ σ := by
  unfold fX13_holds_b270 at h
  refine r_iconst (v := 0) dX13_holds_270 (by decide) ?_
  exact tX13_holds_b271 hdd hde hF0 σ (0 : Int32)  _ h hQ
theorem tX13_holds_b305 {l : Launch} {G : gg} {Γ : ly} {d : Nat} {Q : Option Value → ly → mm → Prop} (hdd : 2 ≤ d) {F : Nat → mm → Nat → Int32 → Int32 → Option Int32} {e : Nat} (hde : e + 1 ≤ d) (hF0 : ∀ (d : Nat), e ≤ d → ∀ (σ : mm) (x0 : Nat) (x1 : Int32) (x2 : Int32), tyOK Γ (0, 12) x0 → ∀ r, F 0 σ x0 x1 x2 = some r → CT l G yX13_holds cX13_holds 8 (some .boolean) d 0 0 [.ref (G.2.1 x0), .int x1, .int x2] Γ σ (PP (some (.int r)) Γ σ)) (σ : mm)  (s0 : Int32)   (r : Int32) (h : fX13_holds_b305 F Γ.2 σ s0 = some r) (hQ : Q (some (.int r)) Γ σ) : WP l G yX13_holds cX13_holds 8 (some .boolean) d 0 0 Q 0 0 305 [] [.int s0] Γ σ := by
  unfold fX13_holds_b305 at h
  obtain ⟨hbz, h⟩ := rZ_some h
  obtain rfl := Option.some.inj h
  exact r_zreturn dX13_holds_305 rfl hbz hQ (Nat.le_refl _) (Nat.le_refl _)
theorem tX13_holds_b300 {l : Launch} {G : gg} {Γ : ly} {d : Nat} {Q : Option Value → ly → mm → Prop} (hdd : 2 ≤ d) {F : Nat → mm → Nat → Int32 → Int32 → Option Int32} {e : Nat} (hde : e + 1 ≤ d) (hF0 : ∀ (d : Nat), e ≤ d → ∀ (σ : mm) (x0 : Nat) (x1 : Int32) (x2 : Int32), tyOK Γ (0, 12) x0 → ∀ r, F 0 σ x0 x1 x2 = some r → CT l G yX13_holds cX13_holds 8 (some .boolean) d 0 0 [.ref (G.2.1 x0), .int x1, .int x2] Γ σ (PP (some (.int r)) Γ σ)) (σ : mm)     (r : Int32) (h : fX13_holds_b300 F Γ.2 σ  = some r) (hQ : Q (some (.int r)) Γ σ) : WP l G yX13_holds cX13_holds 8 (some .boolean) d 0 0 Q 0 0 300 [] [] Γ σ := by
  unfold fX13_holds_b300 at h
  refine r_iconst (v := 1) dX13_holds_300 (by decide) ?_
  refine r_goto 305 dX13_holds_301 (by decide) ?_
  exact tX13_holds_b305 hdd hde hF0 σ (1 : Int32)  _ h hQ
theorem tX13_holds_b446 {l : Launch} {G : gg} {Γ : ly} {d : Nat} {Q : Option Value → ly → mm → Prop} (hdd : 2 ≤ d) {F : Nat → mm → Nat → Int32 → Int32 → Option Int32} {e : Nat} (hde : e + 1 ≤ d) (hF0 : ∀ (d : Nat), e ≤ d → ∀ (σ : mm) (x0 : Nat) (x1 : Int32) (x2 : Int32), tyOK Γ (0, 12) x0 → ∀ r, F 0 σ x0 x1 x2 = some r → CT l G yX13_holds cX13_holds 8 (some .boolean) d 0 0 [.ref (G.2.1 x0), .int x1, .int x2] Γ σ (PP (some (.int r)) Γ σ)) (σ : mm)  (s0 : Int32)   (r : Int32) (h : fX13_holds_b446 F Γ.2 σ s0 = some r) (hQ : Q (some (.int r)) Γ σ) : WP l G yX13_holds cX13_holds 8 (some .boolean) d 0 0 Q 0 0 446 [] [.int s0] Γ σ := by
  unfold fX13_holds_b446 at h
  obtain ⟨hbz, h⟩ := rZ_some h
  obtain rfl := Option.some.inj h
  exact r_zreturn dX13_holds_446 rfl hbz hQ (Nat.le_refl _) (Nat.le_refl _)
theorem tX13_holds_b376 {l : Launch} {G : gg} {Γ : ly} {d : Nat} {Q : Option Value → ly → mm → Prop} (hdd : 2 ≤ d) {F : Nat → mm → Nat → Int32 → Int32 → Option Int32} {e : Nat} (hde : e + 1 ≤ d) (hF0 : ∀ (d : Nat), e ≤ d → ∀ (σ : mm) (x0 : Nat) (x1 : Int32) (x2 : Int32), tyOK Γ (0, 12) x0 → ∀ r, F 0 σ x0 x1 x2 = some r → CT l G yX13_holds cX13_holds 8 (some .boolean) d 0 0 [.ref (G.2.1 x0), .int x1, .int x2] Γ σ (PP (some (.int r)) Γ σ)) (σ : mm) (x0 : Nat) (x3 : Int32) (x5 : Int32) (s0 : Int32) (t0 : tyOK Γ (0, 12) x0)  (r : Int32) (h : fX13_holds_b376 F Γ.2 σ x0 x3 x5 s0 = some r) (hQ : Q (some (.int r)) Γ σ) : WP l G yX13_holds cX13_holds 8 (some .boolean) d 0 0 Q 0 0 376 [(0, .ref (G.2.1 x0)), (3, .int x3), (5, .int x5)] [.int s0] Γ σ := by
  unfold fX13_holds_b376 at h
  refine r_istore (lv' := [(7, .int s0), (0, .ref (G.2.1 x0)), (3, .int x3), (5, .int x5)]) dX13_holds_376 (by decide) rfl ?_
  refine r_aload_n 1 dX13_holds_378 rfl ?_
  refine q_getR (e9 := (1, 0)) dX13_holds_379 fd_X13_98 t0 rfl h (fun r1 tr1 h => ?_)
  refine r_iload_n 2 dX13_holds_382 rfl ?_
  refine r_iconst (v := 3) dX13_holds_383 (by decide) ?_
  refine r_iadd dX13_holds_384 ?_
  refine q_iald dX13_holds_385 tr1 h (fun v2 h => ?_)
  refine r_bipush (v := 60) dX13_holds_386 (by decide) ?_
  refine r_icmp_ne 406 dX13_holds_388 (by decide) h (fun _ h => ?_) (fun _ h => ?_)
  · refine r_aload_n 1 dX13_holds_406 rfl ?_
    refine q_getR (e9 := (1, 0)) dX13_holds_407 fd_X13_98 t0 rfl h (fun r3 tr3 h => ?_)
    refine r_iload_n 2 dX13_holds_410 rfl ?_
    refine r_iconst (v := 3) dX13_holds_411 (by decide) ?_
    refine r_iadd dX13_holds_412 ?_
    refine q_iald dX13_holds_413 tr3 h (fun v4 h => ?_)
    refine r_bipush (v := 61) dX13_holds_414 (by decide) ?_
    refine r_icmp_ne 434 dX13_holds_416 (by decide) h (fun _ h => ?_) (fun _ h => ?_)
    · refine r_iload 0 dX13_holds_434 rfl ?_
      refine r_iload 3 dX13_holds_436 rfl ?_
      refine r_icmp_le 445 dX13_holds_438 (by decide) h (fun _ h => ?_) (fun _ h => ?_)
      · refine r_iconst (v := 0) dX13_holds_445 (by decide) ?_
        refine r_pick [] rfl ?_
        exact tX13_holds_b446 hdd hde hF0 σ (0 : Int32)  _ h hQ
      · refine r_iconst (v := 1) dX13_holds_441 (by decide) ?_
        refine r_goto 446 dX13_holds_442 (by decide) ?_
        refine r_pick [] rfl ?_
        exact tX13_holds_b446 hdd hde hF0 σ (1 : Int32)  _ h hQ
    · refine r_iload 0 dX13_holds_419 rfl ?_
      refine r_iload 3 dX13_holds_421 rfl ?_
      refine r_icmp_ne 430 dX13_holds_423 (by decide) h (fun _ h => ?_) (fun _ h => ?_)
      · refine r_iconst (v := 0) dX13_holds_430 (by decide) ?_
        refine r_goto 446 dX13_holds_431 (by decide) ?_
        refine r_pick [] rfl ?_
        exact tX13_holds_b446 hdd hde hF0 σ (0 : Int32)  _ h hQ
      · refine r_iconst (v := 1) dX13_holds_426 (by decide) ?_
        refine r_goto 446 dX13_holds_427 (by decide) ?_
        refine r_pick [] rfl ?_
        exact tX13_holds_b446 hdd hde hF0 σ (1 : Int32)  _ h hQ
  · refine r_iload 0 dX13_holds_391 rfl ?_
    refine r_iload 3 dX13_holds_393 rfl ?_
    refine r_icmp_ge 402 dX13_holds_395 (by decide) h (fun _ h => ?_) (fun _ h => ?_)
    · refine r_iconst (v := 0) dX13_holds_402 (by decide) ?_
      refine r_goto 446 dX13_holds_403 (by decide) ?_
      refine r_pick [] rfl ?_
      exact tX13_holds_b446 hdd hde hF0 σ (0 : Int32)  _ h hQ
    · refine r_iconst (v := 1) dX13_holds_398 (by decide) ?_
      refine r_goto 446 dX13_holds_399 (by decide) ?_
      refine r_pick [] rfl ?_
      exact tX13_holds_b446 hdd hde hF0 σ (1 : Int32)  _ h hQ
theorem kX13_holds {l : Launch} {G : gg} {Γ : ly} {σ : mm} (d : Nat) (hdd : 2 ≤ d) {F : Nat → mm → Nat → Int32 → Int32 → Option Int32} {e : Nat} (hde : e + 1 ≤ d) (hF0 : ∀ (d : Nat), e ≤ d → ∀ (σ : mm) (x0 : Nat) (x1 : Int32) (x2 : Int32), tyOK Γ (0, 12) x0 → ∀ r, F 0 σ x0 x1 x2 = some r → CT l G yX13_holds cX13_holds 8 (some .boolean) d 0 0 [.ref (G.2.1 x0), .int x1, .int x2] Γ σ (PP (some (.int r)) Γ σ)) (x0 : Nat) (x1 : Int32) (x2 : Int32) (t0 : tyOK Γ (0, 12) x0) (r : Int32) (h : fX13_holds F Γ.2 σ x0 x1 x2 = some r) : CT l G yX13_holds cX13_holds 8 (some .boolean) d 0 0 [.ref (G.2.1 x0), .int x1, .int x2] Γ σ (PP (some (.int r)) Γ σ) := by
  refine CT.ofWP (by decide) (Nat.le_of_ble_eq_true rfl) ?_
  have hQ : PP (some (.int r)) Γ σ (some (.int r)) Γ σ := PP.self
  generalize PP (some (.int r)) Γ σ = Q at hQ ⊢
  show WP l G yX13_holds cX13_holds 8 (some .boolean) d 0 0 Q 0 0 0 [(0, .ref (G.2.1 x0)), (1, .int x1), (2, .int x2)] [] Γ σ
  unfold fX13_holds at h
  refine r_sipush (v := 143) dX13_holds_0 (by decide) ?_
  refine r_iconst (v := 4) dX13_holds_3 (by decide) ?_
  refine r_iload_n 1 dX13_holds_4 rfl ?_
  refine r_imul dX13_holds_5 ?_
  refine r_iadd dX13_holds_6 ?_
  refine q_nmI h (fun v1 h => ?_)
  refine r_istore_n (lv' := [(3, .int v1), (0, .ref (G.2.1 x0)), (1, .int x1), (2, .int x2)]) dX13_holds_7 (by decide) rfl ?_
  refine r_aload_n 1 dX13_holds_8 rfl ?_
  refine q_getR (e9 := (1, 0)) dX13_holds_9 fd_X13_98 t0 rfl h (fun r2 tr2 h => ?_)
  refine r_iload_n 0 dX13_holds_12 rfl ?_
  refine r_iconst (v := 1) dX13_holds_13 (by decide) ?_
  refine r_iadd dX13_holds_14 ?_
  refine q_iald dX13_holds_15 tr2 h (fun v3 h => ?_)
  refine r_istore (lv' := [(4, .int v3), (3, .int v1), (0, .ref (G.2.1 x0)), (1, .int x1), (2, .int x2)]) dX13_holds_16 (by decide) rfl ?_
  refine r_aload_n 2 dX13_holds_18 rfl ?_
  refine q_getR (e9 := (1, 0)) dX13_holds_19 fd_X13_98 t0 rfl h (fun r4 tr4 h => ?_)
  refine r_iload_n 1 dX13_holds_22 rfl ?_
  refine r_iconst (v := 2) dX13_holds_23 (by decide) ?_
  refine r_iadd dX13_holds_24 ?_
  refine q_iald dX13_holds_25 tr4 h (fun v5 h => ?_)
  refine r_istore (lv' := [(5, .int v5), (4, .int v3), (3, .int v1), (0, .ref (G.2.1 x0)), (1, .int x1), (2, .int x2)]) dX13_holds_26 (by decide) rfl ?_
  refine r_aload_n 3 dX13_holds_28 rfl ?_
  refine q_getR (e9 := (1, 0)) dX13_holds_29 fd_X13_98 t0 rfl h (fun r6 tr6 h => ?_)
  refine r_iload_n 2 dX13_holds_32 rfl ?_
  refine q_iald dX13_holds_33 tr6 h (fun v7 h => ?_)
  rcases if_split h with ⟨q9, h⟩ | ⟨n0, h⟩
  · refine r_lookup 74 108 dX13_holds_34 (by decide) (by rw [q9]; decide) (by decide) ?_
    refine r_aload_n 3 dX13_holds_108 rfl ?_
    refine r_iload 1 dX13_holds_109 rfl ?_
    refine r_iload_n 5 dX13_holds_111 rfl ?_
    obtain ⟨v8, ev8, h⟩ := bd0_some h
    refine q_cVI [.int v3, .int x2] dX13_holds_112 cv_X13_454 (ci := 12) rfl rfl t0 rfl rfl (Nat.le_of_ble_eq_true rfl) (by omega) (hF0 (d - 1) (by omega) σ x0 v3 x2 t0 v8 ev8) ?_
    refine r_if_ne 122 dX13_holds_115 (by decide) h (fun _ h => ?_) (fun _ h => ?_)
    · refine r_iconst (v := 0) dX13_holds_122 (by decide) ?_
      refine r_pick [] rfl ?_
      exact tX13_holds_b123 hdd hde hF0 σ (0 : Int32)  _ h hQ
    · refine r_iconst (v := 1) dX13_holds_118 (by decide) ?_
      refine r_goto 123 dX13_holds_119 (by decide) ?_
      refine r_pick [] rfl ?_
      exact tX13_holds_b123 hdd hde hF0 σ (1 : Int32)  _ h hQ
  rcases if_split h with ⟨q9, h⟩ | ⟨n1, h⟩
  · refine r_lookup 90 124 dX13_holds_34 (by decide) (by rw [q9]; decide) (by decide) ?_
    refine r_aload_n 3 dX13_holds_124 rfl ?_
    refine r_iload 1 dX13_holds_125 rfl ?_
    refine r_iload_n 5 dX13_holds_127 rfl ?_
    obtain ⟨v9, ev9, h⟩ := bd0_some h
    refine q_cVI [.int v3, .int x2] dX13_holds_128 cv_X13_454 (ci := 12) rfl rfl t0 rfl rfl (Nat.le_of_ble_eq_true rfl) (by omega) (hF0 (d - 1) (by omega) σ x0 v3 x2 t0 v9 ev9) ?_
    refine r_if_eq 148 dX13_holds_131 (by decide) h (fun _ h => ?_) (fun _ h => ?_)
    · refine r_pick [] rfl ?_
      exact tX13_holds_b148 hdd hde hF0 σ  _ h hQ
    · refine r_aload_n 3 dX13_holds_134 rfl ?_
      refine r_iload 0 dX13_holds_135 rfl ?_
      refine r_iload_n 5 dX13_holds_137 rfl ?_
      obtain ⟨v10, ev10, h⟩ := bd0_some h
      refine q_cVI [.int v5, .int x2] dX13_holds_138 cv_X13_454 (ci := 12) rfl rfl t0 rfl rfl (Nat.le_of_ble_eq_true rfl) (by omega) (hF0 (d - 1) (by omega) σ x0 v5 x2 t0 v10 ev10) ?_
      refine r_if_eq 148 dX13_holds_141 (by decide) h (fun _ h => ?_) (fun _ h => ?_)
      · refine r_pick [] rfl ?_
        exact tX13_holds_b148 hdd hde hF0 σ  _ h hQ
      · refine r_iconst (v := 1) dX13_holds_144 (by decide) ?_
        refine r_goto 149 dX13_holds_145 (by decide) ?_
        refine r_pick [] rfl ?_
        exact tX13_holds_b149 hdd hde hF0 σ (1 : Int32)  _ h hQ
  rcases if_split h with ⟨q9, h⟩ | ⟨n2, h⟩
  · refine r_lookup 116 150 dX13_holds_34 (by decide) (by rw [q9]; decide) (by decide) ?_
    refine r_aload_n 3 dX13_holds_150 rfl ?_
    refine r_iload 1 dX13_holds_151 rfl ?_
    refine r_iload_n 5 dX13_holds_153 rfl ?_
    obtain ⟨v11, ev11, h⟩ := bd0_some h
    refine q_cVI [.int v3, .int x2] dX13_holds_154 cv_X13_454 (ci := 12) rfl rfl t0 rfl rfl (Nat.le_of_ble_eq_true rfl) (by omega) (hF0 (d - 1) (by omega) σ x0 v3 x2 t0 v11 ev11) ?_
    refine r_if_ne 170 dX13_holds_157 (by decide) h (fun _ h => ?_) (fun _ h => ?_)
    · refine r_pick [] rfl ?_
      exact tX13_holds_b170 hdd hde hF0 σ  _ h hQ
    · refine r_aload_n 3 dX13_holds_160 rfl ?_
      refine r_iload 0 dX13_holds_161 rfl ?_
      refine r_iload_n 5 dX13_holds_163 rfl ?_
      obtain ⟨v12, ev12, h⟩ := bd0_some h
      refine q_cVI [.int v5, .int x2] dX13_holds_164 cv_X13_454 (ci := 12) rfl rfl t0 rfl rfl (Nat.le_of_ble_eq_true rfl) (by omega) (hF0 (d - 1) (by omega) σ x0 v5 x2 t0 v12 ev12) ?_
      refine r_if_eq 174 dX13_holds_167 (by decide) h (fun _ h => ?_) (fun _ h => ?_)
      · refine r_iconst (v := 0) dX13_holds_174 (by decide) ?_
        refine r_pick [] rfl ?_
        exact tX13_holds_b175 hdd hde hF0 σ (0 : Int32)  _ h hQ
      · refine r_pick [] rfl ?_
        exact tX13_holds_b170 hdd hde hF0 σ  _ h hQ
  rcases if_split h with ⟨q9, h⟩ | ⟨n3, h⟩
  · refine r_lookup 142 176 dX13_holds_34 (by decide) (by rw [q9]; decide) (by decide) ?_
    refine r_aload_n 3 dX13_holds_176 rfl ?_
    refine r_iload_n 5 dX13_holds_177 rfl ?_
    obtain ⟨v13, ev13, h⟩ := bd0_some h
    refine q_cVI [.int x2] dX13_holds_178 cv_X13_261 (ci := 12) rfl rfl t0 rfl rfl (Nat.le_of_ble_eq_true rfl) (by omega) (kX13_isLapsed (d - 1) (by omega) x0 x2 t0 v13 ev13) ?_
    obtain ⟨hbz, h⟩ := rZ_some h
    obtain rfl := Option.some.inj h
    exact r_zreturn dX13_holds_181 rfl hbz hQ (Nat.le_refl _) (Nat.le_refl _)
  rcases if_split h with ⟨q9, h⟩ | ⟨n4, h⟩
  · refine r_lookup 148 182 dX13_holds_34 (by decide) (by rw [q9]; decide) (by decide) ?_
    refine r_aload_n 3 dX13_holds_182 rfl ?_
    refine q_getR (e9 := (1, 0)) dX13_holds_183 fd_X13_98 t0 rfl h (fun r14 tr14 h => ?_)
    refine r_bipush (v := 125) dX13_holds_186 (by decide) ?_
    refine r_iload_n 5 dX13_holds_188 rfl ?_
    refine r_iadd dX13_holds_189 ?_
    refine q_iald dX13_holds_190 tr14 h (fun v15 h => ?_)
    refine r_if_ne 198 dX13_holds_191 (by decide) h (fun _ h => ?_) (fun _ h => ?_)
    · refine r_iconst (v := 0) dX13_holds_198 (by decide) ?_
      refine r_pick [] rfl ?_
      exact tX13_holds_b199 hdd hde hF0 σ (0 : Int32)  _ h hQ
    · refine r_iconst (v := 1) dX13_holds_194 (by decide) ?_
      refine r_goto 199 dX13_holds_195 (by decide) ?_
      refine r_pick [] rfl ?_
      exact tX13_holds_b199 hdd hde hF0 σ (1 : Int32)  _ h hQ
  rcases if_split h with ⟨q9, h⟩ | ⟨n5, h⟩
  · refine r_lookup 166 200 dX13_holds_34 (by decide) (by rw [q9]; decide) (by decide) ?_
    refine r_aload_n 3 dX13_holds_200 rfl ?_
    refine q_getR (e9 := (1, 0)) dX13_holds_201 fd_X13_98 t0 rfl h (fun r16 tr16 h => ?_)
    refine r_sipush (v := 129) dX13_holds_204 (by decide) ?_
    refine r_iload_n 5 dX13_holds_207 rfl ?_
    refine r_iadd dX13_holds_208 ?_
    refine q_iald dX13_holds_209 tr16 h (fun v17 h => ?_)
    refine r_iconst (v := 1) dX13_holds_210 (by decide) ?_
    refine r_icmp_ne 218 dX13_holds_211 (by decide) h (fun _ h => ?_) (fun _ h => ?_)
    · refine r_iconst (v := 0) dX13_holds_218 (by decide) ?_
      refine r_pick [] rfl ?_
      exact tX13_holds_b219 hdd hde hF0 σ (0 : Int32)  _ h hQ
    · refine r_iconst (v := 1) dX13_holds_214 (by decide) ?_
      refine r_goto 219 dX13_holds_215 (by decide) ?_
      refine r_pick [] rfl ?_
      exact tX13_holds_b219 hdd hde hF0 σ (1 : Int32)  _ h hQ
  rcases if_split h with ⟨q9, h⟩ | ⟨n6, h⟩
  · refine r_lookup 186 220 dX13_holds_34 (by decide) (by rw [q9]; decide) (by decide) ?_
    refine r_aload_n 3 dX13_holds_220 rfl ?_
    refine r_aload_n 3 dX13_holds_221 rfl ?_
    refine q_getR (e9 := (1, 0)) dX13_holds_222 fd_X13_98 t0 rfl h (fun r18 tr18 h => ?_)
    refine r_bipush (v := 56) dX13_holds_225 (by decide) ?_
    refine r_iload_n 5 dX13_holds_227 rfl ?_
    refine r_iadd dX13_holds_228 ?_
    refine q_iald dX13_holds_229 tr18 h (fun v19 h => ?_)
    refine r_aload_n 3 dX13_holds_230 rfl ?_
    refine q_getR (e9 := (1, 0)) dX13_holds_231 fd_X13_98 t0 rfl h (fun r20 tr20 h => ?_)
    refine r_bipush (v := 102) dX13_holds_234 (by decide) ?_
    refine q_iald dX13_holds_236 tr20 h (fun v21 h => ?_)
    obtain ⟨v22, ev22, h⟩ := bd0_some h
    refine q_cVI [.int v19, .int v21] dX13_holds_237 cv_X13_234 (ci := 12) rfl rfl t0 rfl rfl (Nat.le_of_ble_eq_true rfl) (by omega) (kX13_isAwake (d - 1) (by omega) x0 v19 v21 t0 v22 ev22) ?_
    refine r_if_eq 270 dX13_holds_240 (by decide) h (fun _ h => ?_) (fun _ h => ?_)
    · refine r_pick [] rfl ?_
      exact tX13_holds_b270 hdd hde hF0 σ  _ h hQ
    · refine r_aload_n 3 dX13_holds_243 rfl ?_
      refine r_aload_n 3 dX13_holds_244 rfl ?_
      refine q_getR (e9 := (1, 0)) dX13_holds_245 fd_X13_98 t0 rfl h (fun r23 tr23 h => ?_)
      refine r_bipush (v := 60) dX13_holds_248 (by decide) ?_
      refine r_iload_n 5 dX13_holds_250 rfl ?_
      refine r_iadd dX13_holds_251 ?_
      refine q_iald dX13_holds_252 tr23 h (fun v24 h => ?_)
      refine r_aload_n 3 dX13_holds_253 rfl ?_
      refine q_getR (e9 := (1, 0)) dX13_holds_254 fd_X13_98 t0 rfl h (fun r25 tr25 h => ?_)
      refine r_bipush (v := 102) dX13_holds_257 (by decide) ?_
      refine q_iald dX13_holds_259 tr25 h (fun v26 h => ?_)
      obtain ⟨v27, ev27, h⟩ := bd0_some h
      refine q_cVI [.int v24, .int v26] dX13_holds_260 cv_X13_234 (ci := 12) rfl rfl t0 rfl rfl (Nat.le_of_ble_eq_true rfl) (by omega) (kX13_isAwake (d - 1) (by omega) x0 v24 v26 t0 v27 ev27) ?_
      refine r_if_eq 270 dX13_holds_263 (by decide) h (fun _ h => ?_) (fun _ h => ?_)
      · refine r_pick [] rfl ?_
        exact tX13_holds_b270 hdd hde hF0 σ  _ h hQ
      · refine r_iconst (v := 1) dX13_holds_266 (by decide) ?_
        refine r_goto 271 dX13_holds_267 (by decide) ?_
        refine r_pick [] rfl ?_
        exact tX13_holds_b271 hdd hde hF0 σ (1 : Int32)  _ h hQ
  rcases if_split h with ⟨q9, h⟩ | ⟨n7, h⟩
  · refine r_lookup 238 272 dX13_holds_34 (by decide) (by rw [q9]; decide) (by decide) ?_
    refine r_aload_n 3 dX13_holds_272 rfl ?_
    refine q_getR (e9 := (1, 0)) dX13_holds_273 fd_X13_98 t0 rfl h (fun r28 tr28 h => ?_)
    refine r_bipush (v := 56) dX13_holds_276 (by decide) ?_
    refine r_iload_n 5 dX13_holds_278 rfl ?_
    refine r_iadd dX13_holds_279 ?_
    refine q_iald dX13_holds_280 tr28 h (fun v29 h => ?_)
    refine r_iload 1 dX13_holds_281 rfl ?_
    refine r_icmp_eq 300 dX13_holds_283 (by decide) h (fun _ h => ?_) (fun _ h => ?_)
    · refine r_pick [] rfl ?_
      exact tX13_holds_b300 hdd hde hF0 σ  _ h hQ
    · refine r_aload_n 3 dX13_holds_286 rfl ?_
      refine q_getR (e9 := (1, 0)) dX13_holds_287 fd_X13_98 t0 rfl h (fun r30 tr30 h => ?_)
      refine r_bipush (v := 60) dX13_holds_290 (by decide) ?_
      refine r_iload_n 5 dX13_holds_292 rfl ?_
      refine r_iadd dX13_holds_293 ?_
      refine q_iald dX13_holds_294 tr30 h (fun v31 h => ?_)
      refine r_iload 1 dX13_holds_295 rfl ?_
      refine r_icmp_ne 304 dX13_holds_297 (by decide) h (fun _ h => ?_) (fun _ h => ?_)
      · refine r_iconst (v := 0) dX13_holds_304 (by decide) ?_
        refine r_pick [] rfl ?_
        exact tX13_holds_b305 hdd hde hF0 σ (0 : Int32)  _ h hQ
      · refine r_pick [] rfl ?_
        exact tX13_holds_b300 hdd hde hF0 σ  _ h hQ
  have n0 := ne_int n0 (z := 1) rfl
  have n1 := ne_int n1 (z := 2) rfl
  have n2 := ne_int n2 (z := 3) rfl
  have n3 := ne_int n3 (z := 70) rfl
  have n4 := ne_int n4 (z := 71) rfl
  have n5 := ne_int n5 (z := 72) rfl
  have n6 := ne_int n6 (z := 73) rfl
  have n7 := ne_int n7 (z := 74) rfl
  refine r_lookup (272) 306 dX13_holds_34 (by decide) (by simp [Op.lookupswitch.offset, n0, Ne.symm n0, n1, Ne.symm n1, n2, Ne.symm n2, n3, Ne.symm n3, n4, Ne.symm n4, n5, Ne.symm n5, n6, Ne.symm n6, n7, Ne.symm n7]) (by decide) ?_
  refine r_aload_n 3 dX13_holds_306 rfl ?_
  refine q_getR (e9 := (1, 0)) dX13_holds_307 fd_X13_98 t0 rfl h (fun r32 tr32 h => ?_)
  refine r_iload_n 2 dX13_holds_310 rfl ?_
  refine q_iald dX13_holds_311 tr32 h (fun v33 h => ?_)
  refine r_bipush (v := 50) dX13_holds_312 (by decide) ?_
  refine r_isub dX13_holds_314 ?_
  refine q_nmI h (fun v34 h => ?_)
  refine r_istore (lv' := [(6, .int v34), (5, .int v5), (4, .int v3), (3, .int v1), (0, .ref (G.2.1 x0)), (1, .int x1), (2, .int x2)]) dX13_holds_315 (by decide) rfl ?_
  refine r_iload 0 dX13_holds_317 rfl ?_
  refine r_bipush (v := 25) dX13_holds_319 (by decide) ?_
  refine r_icmp_ne 336 dX13_holds_321 (by decide) h (fun _ h => ?_) (fun _ h => ?_)
  · refine r_iload 0 dX13_holds_336 rfl ?_
    refine r_bipush (v := 26) dX13_holds_338 (by decide) ?_
    refine r_icmp_ne 355 dX13_holds_340 (by decide) h (fun _ h => ?_) (fun _ h => ?_)
    · refine r_iload 0 dX13_holds_355 rfl ?_
      refine r_bipush (v := 27) dX13_holds_357 (by decide) ?_
      refine r_icmp_ne 375 dX13_holds_359 (by decide) h (fun _ h => ?_) (fun _ h => ?_)
      · refine r_iload_n 6 dX13_holds_375 rfl ?_
        refine r_pick [4, 3, 1] rfl ?_
        exact tX13_holds_b376 hdd hde hF0 σ x0 v1 v5 x2 t0 _ h hQ
      · refine r_aload_n 4 dX13_holds_362 rfl ?_
        refine q_getR (e9 := (1, 0)) dX13_holds_363 fd_X13_98 t0 rfl h (fun r35 tr35 h => ?_)
        refine r_sipush (v := 137) dX13_holds_366 (by decide) ?_
        refine r_iload_n 6 dX13_holds_369 rfl ?_
        refine r_iadd dX13_holds_370 ?_
        refine q_iald dX13_holds_371 tr35 h (fun v36 h => ?_)
        refine r_goto 376 dX13_holds_372 (by decide) ?_
        refine r_pick [4, 3, 1] rfl ?_
        exact tX13_holds_b376 hdd hde hF0 σ x0 v1 v5 v36 t0 _ h hQ
    · refine r_aload_n 4 dX13_holds_343 rfl ?_
      refine q_getR (e9 := (1, 0)) dX13_holds_344 fd_X13_98 t0 rfl h (fun r37 tr37 h => ?_)
      refine r_bipush (v := 121) dX13_holds_347 (by decide) ?_
      refine r_iload_n 6 dX13_holds_349 rfl ?_
      refine r_iadd dX13_holds_350 ?_
      refine q_iald dX13_holds_351 tr37 h (fun v38 h => ?_)
      refine r_goto 376 dX13_holds_352 (by decide) ?_
      refine r_pick [4, 3, 1] rfl ?_
      exact tX13_holds_b376 hdd hde hF0 σ x0 v1 v5 v38 t0 _ h hQ
  · refine r_aload_n 4 dX13_holds_324 rfl ?_
    refine q_getR (e9 := (1, 0)) dX13_holds_325 fd_X13_98 t0 rfl h (fun r39 tr39 h => ?_)
    refine r_bipush (v := 125) dX13_holds_328 (by decide) ?_
    refine r_iload_n 6 dX13_holds_330 rfl ?_
    refine r_iadd dX13_holds_331 ?_
    refine q_iald dX13_holds_332 tr39 h (fun v40 h => ?_)
    refine r_goto 376 dX13_holds_333 (by decide) ?_
    refine r_pick [4, 3, 1] rfl ?_
    exact tX13_holds_b376 hdd hde hF0 σ x0 v1 v5 v40 t0 _ h hQ
theorem kallX13_holds {l : Launch} {G : gg} {Γ : ly} : ∀ n : Nat, (∀ (d : Nat), 2 + n ≤ d → ∀ (σ : mm) (x0 : Nat) (x1 : Int32) (x2 : Int32), tyOK Γ (0, 12) x0 → ∀ r, gX13_holds Γ.2 n 0 σ x0 x1 x2 = some r → CT l G yX13_holds cX13_holds 8 (some .boolean) d 0 0 [.ref (G.2.1 x0), .int x1, .int x2] Γ σ (PP (some (.int r)) Γ σ)) := by
  intro n
  induction n with
  | zero => exact fun d _ σ _ _ _ _ r h => (nomatch h)
  | succ n ih =>
    have hF0 := ih
    refine ?_
    · intro d hd σ x0 x1 x2 t0 r h
      exact kX13_holds (F := gX13_holds Γ.2 n) (e := 2 + n) d (by omega) (by omega) hF0 x0 x1 x2 t0 r h
theorem kgX13_holds {l : Launch} {G : gg} {Γ : ly} (n : Nat) : ∀ (d : Nat), 2 + n ≤ d → ∀ (σ : mm) (x0 : Nat) (x1 : Int32) (x2 : Int32), tyOK Γ (0, 12) x0 → ∀ r, gX13_holds Γ.2 n 0 σ x0 x1 x2 = some r → CT l G yX13_holds cX13_holds 8 (some .boolean) d 0 0 [.ref (G.2.1 x0), .int x1, .int x2] Γ σ (PP (some (.int r)) Γ σ) := (kallX13_holds n)
theorem tX13_said_b61 {l : Launch} {G : gg} {Γ : ly} {d : Nat} {Q : Option Value → ly → mm → Prop} (hdd : 103 ≤ d) (σ : mm) (x0 : Nat) (x1 : Int32) (x2 : Int32) (x3 : Int32)  (t0 : tyOK Γ (0, 12) x0)  (r : ((Int32 × Int32) ⊕ (Int32 ⊕ Int32))) (h : fX13_said_b61 Γ.2 σ x0 x1 x2 x3 = some r) (hb : ∀ (x2 : Int32) (x3 : Int32), r = .inl (x2, x3) → WP l G yX13_said cX13_said 4 (some .int) d 0 0 Q 0 0 22 [(0, .ref (G.2.1 x0)), (1, .int x1), (2, .int x2), (3, .int x3)] [] Γ σ) (hx0 : ∀ (x3 : Int32), r = .inr (.inl x3) → WP l G yX13_said cX13_said 4 (some .int) d 0 0 Q 0 0 56 [(3, .int x3)] [] Γ σ) (hx1 : ∀ (x2 : Int32), r = .inr (.inr x2) → WP l G yX13_said cX13_said 4 (some .int) d 0 0 Q 0 0 67 [(1, .int x1), (2, .int x2)] [] Γ σ) : WP l G yX13_said cX13_said 4 (some .int) d 0 0 Q 0 0 61 [(0, .ref (G.2.1 x0)), (1, .int x1), (2, .int x2), (3, .int x3)] [] Γ σ := by
  unfold fX13_said_b61 at h
  refine q_iinc (v := 1) 3 (fun v1 => [(3, .int v1), (0, .ref (G.2.1 x0)), (1, .int x1), (2, .int x2)]) dX13_said_61 rfl (by decide) (by decide) (fun _ => rfl) h (fun v1 h => ?_)
  refine r_goto 22 dX13_said_64 (by decide) ?_
  obtain rfl := Option.some.inj h
  refine r_pick [1, 2, 3, 0] rfl ?_
  exact hb _ _ rfl
theorem sX13_said_L22 {l : Launch} {G : gg} {Γ : ly} {d : Nat} {Q : Option Value → ly → mm → Prop} (hdd : 103 ≤ d) (σ : mm) (x0 : Nat) (x1 : Int32) (t0 : tyOK Γ (0, 12) x0) {K : (Int32 ⊕ Int32) → Prop} (kx0 : ∀ (x3 : Int32), K (.inl x3) → WP l G yX13_said cX13_said 4 (some .int) d 0 0 Q 0 0 56 [(3, .int x3)] [] Γ σ) (kx1 : ∀ (x2 : Int32), K (.inr x2) → WP l G yX13_said cX13_said 4 (some .int) d 0 0 Q 0 0 67 [(1, .int x1), (2, .int x2)] [] Γ σ) : ∀ (N : Nat) (s : (Int32 × Int32)) (b : (Int32 ⊕ Int32)), loopN (fX13_said_L22 Γ.2 σ x0 x1) N s = some b → K b → WP l G yX13_said cX13_said 4 (some .int) d 0 0 Q 0 0 22 [(0, .ref (G.2.1 x0)), (1, .int x1), (2, .int s.1), (3, .int s.2)] [] Γ σ := by
  refine r_loop (f := fX13_said_L22 Γ.2 σ x0 x1) (hlv := fun s => [(0, .ref (G.2.1 x0)), (1, .int x1), (2, .int s.1), (3, .int s.2)]) (hsg := fun s => σ) ?_
  rintro ⟨x2, x3⟩ r h hb hx
  have hb : ∀ (x2 : Int32) (x3 : Int32), r = .inl (x2, x3) → WP l G yX13_said cX13_said 4 (some .int) d 0 0 Q 0 0 22 [(0, .ref (G.2.1 x0)), (1, .int x1), (2, .int x2), (3, .int x3)] [] Γ σ := fun x2 x3 e => hb (x2, x3) e
  have hx0 : ∀ (x3 : Int32), r = .inr (.inl x3) → WP l G yX13_said cX13_said 4 (some .int) d 0 0 Q 0 0 56 [(3, .int x3)] [] Γ σ := fun x3 e => kx0 x3 (hx _ e)
  have hx1 : ∀ (x2 : Int32), r = .inr (.inr x2) → WP l G yX13_said cX13_said 4 (some .int) d 0 0 Q 0 0 67 [(1, .int x1), (2, .int x2)] [] Γ σ := fun x2 e => kx1 x2 (hx _ e)
  unfold fX13_said_L22 at h
  have h := un2_some h
  show WP l G yX13_said cX13_said 4 (some .int) d 0 0 Q 0 0 22 [(0, .ref (G.2.1 x0)), (1, .int x1), (2, .int x2), (3, .int x3)] [] Γ σ
  refine r_iload_n 3 dX13_said_22 rfl ?_
  refine r_aload_n 0 dX13_said_23 rfl ?_
  refine q_getR (e9 := (1, 0)) dX13_said_24 fd_X13_98 t0 rfl h (fun r1 tr1 h => ?_)
  refine r_iconst (v := 1) dX13_said_27 (by decide) ?_
  refine q_iald dX13_said_28 tr1 h (fun v2 h => ?_)
  refine r_icmp_ge 67 dX13_said_29 (by decide) h (fun _ h => ?_) (fun _ h => ?_)
  · obtain rfl := Option.some.inj h
    refine r_pick [1, 2] rfl ?_
    exact hx1 _ rfl
  · refine r_aload_n 0 dX13_said_32 rfl ?_
    refine r_aload_n 0 dX13_said_33 rfl ?_
    refine q_getR (e9 := (1, 0)) dX13_said_34 fd_X13_98 t0 rfl h (fun r3 tr3 h => ?_)
    refine r_sipush (v := 142) dX13_said_37 (by decide) ?_
    refine q_iald dX13_said_40 tr3 h (fun v4 h => ?_)
    refine r_iload_n 3 dX13_said_41 rfl ?_
    obtain ⟨v5, ev5, h⟩ := bd0_some h
    refine q_cVI [.int v4, .int x3] dX13_said_42 cv_X13_454 (ci := 12) rfl rfl t0 rfl rfl (Nat.le_of_ble_eq_true rfl) (by omega) (kgX13_holds 100 (d - 1) (by omega) σ x0 v4 x3 t0 v5 ev5) ?_
    refine r_if_ne 51 dX13_said_45 (by decide) h (fun _ h => ?_) (fun _ h => ?_)
    · refine r_iload_n 2 dX13_said_51 rfl ?_
      refine r_iload_n 1 dX13_said_52 rfl ?_
      refine r_icmp_ne 58 dX13_said_53 (by decide) h (fun _ h => ?_) (fun _ h => ?_)
      · refine q_iinc (v := 1) 2 (fun v6 => [(2, .int v6), (0, .ref (G.2.1 x0)), (1, .int x1), (3, .int x3)]) dX13_said_58 rfl (by decide) (by decide) (fun _ => rfl) h (fun v6 h => ?_)
        refine r_pick [1, 2, 0, 3] rfl ?_
        exact tX13_said_b61 hdd σ x0 x1 v6 x3 t0 _ h hb hx0 hx1
      · obtain rfl := Option.some.inj h
        refine r_pick [3] rfl ?_
        exact hx0 _ rfl
    · refine r_goto 61 dX13_said_48 (by decide) ?_
      exact tX13_said_b61 hdd σ x0 x1 x2 x3 t0 _ h hb hx0 hx1
theorem tX13_said_b77 {l : Launch} {G : gg} {Γ : ly} {d : Nat} {Q : Option Value → ly → mm → Prop} (hdd : 103 ≤ d) (σ : mm)  (s0 : Int32)   (r : (Int32 × mm)) (h : fX13_said_b77 Γ.2 σ s0 = some r) (hQ : Q (some (.int r.1)) Γ r.2) : WP l G yX13_said cX13_said 4 (some .int) d 0 0 Q 0 0 77 [] [.int s0] Γ σ := by
  unfold fX13_said_b77 at h
  obtain rfl := Option.some.inj h
  exact r_ireturn dX13_said_77 rfl hQ (Nat.le_refl _) (Nat.le_refl _)
theorem kX13_said {l : Launch} {G : gg} {Γ : ly} {σ : mm} (d : Nat) (hdd : 103 ≤ d) (x0 : Nat) (x1 : Int32) (t0 : tyOK Γ (0, 12) x0) (r : (Int32 × mm)) (h : fX13_said Γ.2 σ x0 x1 = some r) : CT l G yX13_said cX13_said 4 (some .int) d 0 0 [.ref (G.2.1 x0), .int x1] Γ σ (PP (some (.int r.1)) Γ r.2) := by
  refine CT.ofWP (by decide) (Nat.le_of_ble_eq_true rfl) ?_
  have hQ : PP (some (.int r.1)) Γ r.2 (some (.int r.1)) Γ r.2 := PP.self
  generalize PP (some (.int r.1)) Γ r.2 = Q at hQ ⊢
  show WP l G yX13_said cX13_said 4 (some .int) d 0 0 Q 0 0 0 [(0, .ref (G.2.1 x0)), (1, .int x1)] [] Γ σ
  unfold fX13_said at h
  refine r_aload_n 0 dX13_said_0 rfl ?_
  refine r_iconst (v := 0) dX13_said_1 (by decide) ?_
  refine q_putI dX13_said_2 fd_X13_1 t0 h (fun τ1 h => ?_)
  refine r_aload_n 0 dX13_said_5 rfl ?_
  refine q_getR (e9 := (1, 0)) dX13_said_6 fd_X13_98 t0 rfl h (fun r2 tr2 h => ?_)
  refine r_sipush (v := 141) dX13_said_9 (by decide) ?_
  refine q_iald dX13_said_12 tr2 h (fun v3 h => ?_)
  refine r_if_ne 18 dX13_said_13 (by decide) h (fun _ h => ?_) (fun _ h => ?_)
  · refine r_iconst (v := 0) dX13_said_18 (by decide) ?_
    refine r_istore_n (lv' := [(2, .int (0 : Int32)), (0, .ref (G.2.1 x0)), (1, .int x1)]) dX13_said_19 (by decide) rfl ?_
    refine r_iconst (v := 0) dX13_said_20 (by decide) ?_
    refine r_istore_n (lv' := [(3, .int (0 : Int32)), (2, .int (0 : Int32)), (0, .ref (G.2.1 x0)), (1, .int x1)]) dX13_said_21 (by decide) rfl ?_
    obtain ⟨b4, eb4, h⟩ := bd0_some h
    refine r_pick [2, 3, 1, 0] rfl ?_
    refine sX13_said_L22 hdd τ1 x0 x1 t0 (K := fun b => b = b4) ?_ ?_ 1000 ((0 : Int32), (0 : Int32)) b4 eb4 rfl
    · rintro v5 rfl
      have h := cs2_0 h
      refine r_iload_n 0 dX13_said_56 rfl ?_
      obtain rfl := Option.some.inj h
      exact r_ireturn dX13_said_57 rfl hQ (Nat.le_refl _) (Nat.le_refl _)
    · rintro v6 rfl
      have h := cs2_1 h
      refine r_iload_n 0 dX13_said_67 rfl ?_
      refine r_iconst (v := -1) dX13_said_68 (by decide) ?_
      refine r_icmp_ne 76 dX13_said_69 (by decide) h (fun _ h => ?_) (fun _ h => ?_)
      · refine r_iconst (v := -1) dX13_said_76 (by decide) ?_
        refine r_pick [] rfl ?_
        exact tX13_said_b77 hdd τ1 (-1 : Int32)  _ h hQ
      · refine r_iload_n 1 dX13_said_72 rfl ?_
        refine r_goto 77 dX13_said_73 (by decide) ?_
        refine r_pick [] rfl ?_
        exact tX13_said_b77 hdd τ1 v6  _ h hQ
  · refine r_iconst (v := -1) dX13_said_16 (by decide) ?_
    obtain rfl := Option.some.inj h
    exact r_ireturn dX13_said_17 rfl hQ (Nat.le_refl _) (Nat.le_refl _)
theorem sX13_image_L18 {l : Launch} {G : gg} {Γ : ly} {d : Nat} {Q : Option Value → ly → mm → Prop} (hdd : 1 ≤ d) (x0 : Nat) (x1 : Int32) (t0 : tyOK Γ (0, 12) x0) {K : mm → Prop} (kx0 : ∀ (σ9 : mm), K σ9 → WP l G yX13_image cX13_image 3 (some .boolean) d 0 0 Q 0 0 49 [(0, .ref (G.2.1 x0)), (1, .int x1)] [] Γ σ9) : ∀ (N : Nat) (s : (Int32 × mm)) (b : mm), loopN (fX13_image_L18 Γ.2 x0 x1) N s = some b → K b → WP l G yX13_image cX13_image 3 (some .boolean) d 0 0 Q 0 0 18 [(0, .ref (G.2.1 x0)), (1, .int x1), (2, .int s.1)] [] Γ s.2 := by
  refine r_loop (f := fX13_image_L18 Γ.2 x0 x1) (hlv := fun s => [(0, .ref (G.2.1 x0)), (1, .int x1), (2, .int s.1)]) (hsg := fun s => s.2) ?_
  rintro ⟨x2, σ⟩ r h hb hx
  have hb : ∀ (x2 : Int32) (σ : mm), r = .inl (x2, σ) → WP l G yX13_image cX13_image 3 (some .boolean) d 0 0 Q 0 0 18 [(0, .ref (G.2.1 x0)), (1, .int x1), (2, .int x2)] [] Γ σ := fun x2 σ e => hb (x2, σ) e
  have hx0 : ∀ (σ9 : mm), r = .inr σ9 → WP l G yX13_image cX13_image 3 (some .boolean) d 0 0 Q 0 0 49 [(0, .ref (G.2.1 x0)), (1, .int x1)] [] Γ σ9 := fun σ9 e => kx0 σ9 (hx _ e)
  unfold fX13_image_L18 at h
  have h := un2_some h
  show WP l G yX13_image cX13_image 3 (some .boolean) d 0 0 Q 0 0 18 [(0, .ref (G.2.1 x0)), (1, .int x1), (2, .int x2)] [] Γ σ
  refine r_iload_n 2 dX13_image_18 rfl ?_
  refine r_sipush (v := 383) dX13_image_19 (by decide) ?_
  refine r_icmp_ge 49 dX13_image_22 (by decide) h (fun _ h => ?_) (fun _ h => ?_)
  · obtain rfl := Option.some.inj h
    refine r_pick [0, 1] rfl ?_
    exact hx0 _ rfl
  · refine r_aload_n 0 dX13_image_25 rfl ?_
    refine q_getR (e9 := (1, 0)) dX13_image_26 fd_X13_104 t0 rfl h (fun r1 tr1 h => ?_)
    refine r_sipush (v := 383) dX13_image_29 (by decide) ?_
    refine r_iload_n 1 dX13_image_32 rfl ?_
    refine r_imul dX13_image_33 ?_
    refine r_iload_n 2 dX13_image_34 rfl ?_
    refine r_iadd dX13_image_35 ?_
    refine r_aload_n 0 dX13_image_36 rfl ?_
    refine q_getR (e9 := (1, 0)) dX13_image_37 fd_X13_98 t0 rfl h (fun r2 tr2 h => ?_)
    refine r_iload_n 2 dX13_image_40 rfl ?_
    refine q_iald dX13_image_41 tr2 h (fun v3 h => ?_)
    refine q_iast dX13_image_42 tr1 h (fun τ4 h => ?_)
    refine q_iinc (v := 1) 2 (fun v5 => [(2, .int v5), (0, .ref (G.2.1 x0)), (1, .int x1)]) dX13_image_43 rfl (by decide) (by decide) (fun _ => rfl) h (fun v5 h => ?_)
    refine r_goto 18 dX13_image_46 (by decide) ?_
    obtain rfl := Option.some.inj h
    refine r_pick [1, 2, 0] rfl ?_
    exact hb _ _ rfl
theorem sX13_image_L51 {l : Launch} {G : gg} {Γ : ly} {d : Nat} {Q : Option Value → ly → mm → Prop} (hdd : 1 ≤ d) (x0 : Nat) (x1 : Int32) (t0 : tyOK Γ (0, 12) x0) {K : mm → Prop} (kx0 : ∀ (σ9 : mm), K σ9 → WP l G yX13_image cX13_image 3 (some .boolean) d 0 0 Q 0 0 80 [(0, .ref (G.2.1 x0)), (1, .int x1)] [] Γ σ9) : ∀ (N : Nat) (s : (Int32 × mm)) (b : mm), loopN (fX13_image_L51 Γ.2 x0 x1) N s = some b → K b → WP l G yX13_image cX13_image 3 (some .boolean) d 0 0 Q 0 0 51 [(0, .ref (G.2.1 x0)), (1, .int x1), (2, .int s.1)] [] Γ s.2 := by
  refine r_loop (f := fX13_image_L51 Γ.2 x0 x1) (hlv := fun s => [(0, .ref (G.2.1 x0)), (1, .int x1), (2, .int s.1)]) (hsg := fun s => s.2) ?_
  rintro ⟨x2, σ⟩ r h hb hx
  have hb : ∀ (x2 : Int32) (σ : mm), r = .inl (x2, σ) → WP l G yX13_image cX13_image 3 (some .boolean) d 0 0 Q 0 0 51 [(0, .ref (G.2.1 x0)), (1, .int x1), (2, .int x2)] [] Γ σ := fun x2 σ e => hb (x2, σ) e
  have hx0 : ∀ (σ9 : mm), r = .inr σ9 → WP l G yX13_image cX13_image 3 (some .boolean) d 0 0 Q 0 0 80 [(0, .ref (G.2.1 x0)), (1, .int x1)] [] Γ σ9 := fun σ9 e => kx0 σ9 (hx _ e)
  unfold fX13_image_L51 at h
  have h := un2_some h
  show WP l G yX13_image cX13_image 3 (some .boolean) d 0 0 Q 0 0 51 [(0, .ref (G.2.1 x0)), (1, .int x1), (2, .int x2)] [] Γ σ
  refine r_iload_n 2 dX13_image_51 rfl ?_
  refine r_bipush (v := 18) dX13_image_52 (by decide) ?_
  refine r_icmp_ge 80 dX13_image_54 (by decide) h (fun _ h => ?_) (fun _ h => ?_)
  · obtain rfl := Option.some.inj h
    refine r_pick [0, 1] rfl ?_
    exact hx0 _ rfl
  · refine r_aload_n 0 dX13_image_57 rfl ?_
    refine q_getR (e9 := (4, 0)) dX13_image_58 fd_X13_120 t0 rfl h (fun r1 tr1 h => ?_)
    refine r_bipush (v := 18) dX13_image_61 (by decide) ?_
    refine r_iload_n 1 dX13_image_63 rfl ?_
    refine r_imul dX13_image_64 ?_
    refine r_iload_n 2 dX13_image_65 rfl ?_
    refine r_iadd dX13_image_66 ?_
    refine r_aload_n 0 dX13_image_67 rfl ?_
    refine q_getR (e9 := (4, 0)) dX13_image_68 fd_X13_113 t0 rfl h (fun r2 tr2 h => ?_)
    refine r_iload_n 2 dX13_image_71 rfl ?_
    refine q_lald dX13_image_72 tr2 h (fun v3 h => ?_)
    refine q_last dX13_image_73 tr1 h (fun τ4 h => ?_)
    refine q_iinc (v := 1) 2 (fun v5 => [(2, .int v5), (0, .ref (G.2.1 x0)), (1, .int x1)]) dX13_image_74 rfl (by decide) (by decide) (fun _ => rfl) h (fun v5 h => ?_)
    refine r_goto 51 dX13_image_77 (by decide) ?_
    obtain rfl := Option.some.inj h
    refine r_pick [1, 2, 0] rfl ?_
    exact hb _ _ rfl
theorem kX13_image {l : Launch} {G : gg} {Γ : ly} {σ : mm} (d : Nat) (hdd : 1 ≤ d) (x0 : Nat) (x1 : Int32) (t0 : tyOK Γ (0, 12) x0) (r : (Int32 × mm)) (h : fX13_image Γ.2 σ x0 x1 = some r) : CT l G yX13_image cX13_image 3 (some .boolean) d 0 0 [.ref (G.2.1 x0), .int x1] Γ σ (PP (some (.int r.1)) Γ r.2) := by
  refine CT.ofWP (by decide) (Nat.le_of_ble_eq_true rfl) ?_
  have hQ : PP (some (.int r.1)) Γ r.2 (some (.int r.1)) Γ r.2 := PP.self
  generalize PP (some (.int r.1)) Γ r.2 = Q at hQ ⊢
  show WP l G yX13_image cX13_image 3 (some .boolean) d 0 0 Q 0 0 0 [(0, .ref (G.2.1 x0)), (1, .int x1)] [] Γ σ
  unfold fX13_image at h
  refine r_aload_n 0 dX13_image_0 rfl ?_
  refine r_iconst (v := 0) dX13_image_1 (by decide) ?_
  refine q_putI dX13_image_2 fd_X13_1 t0 h (fun τ1 h => ?_)
  refine r_iload_n 1 dX13_image_5 rfl ?_
  refine r_iconst (v := 0) dX13_image_6 (by decide) ?_
  refine r_iconst (v := 1) dX13_image_7 (by decide) ?_
  obtain ⟨v2, ev2, h⟩ := bd0_some h
  refine q_cSI [.int x1, .int (0 : Int32), .int (1 : Int32)] dX13_image_8 cs_X13_75 rfl rfl (Nat.le_of_ble_eq_true rfl) (by omega) (kX13_isIn (d - 1) (by omega) x1 (0 : Int32) (1 : Int32)  v2 ev2) ?_
  refine r_if_ne 16 dX13_image_11 (by decide) h (fun _ h => ?_) (fun _ h => ?_)
  · refine r_iconst (v := 0) dX13_image_16 (by decide) ?_
    refine r_istore_n (lv' := [(2, .int (0 : Int32)), (0, .ref (G.2.1 x0)), (1, .int x1)]) dX13_image_17 (by decide) rfl ?_
    obtain ⟨b3, eb3, h⟩ := bd0_some h
    refine r_pick [1, 2, 0] rfl ?_
    refine sX13_image_L18 hdd x0 x1 t0 (K := fun b => b = b3) ?_ 1000 ((0 : Int32), τ1) b3 eb3 rfl
    rintro τ4 rfl
    refine r_iconst (v := 0) dX13_image_49 (by decide) ?_
    refine r_istore_n (lv' := [(2, .int (0 : Int32)), (0, .ref (G.2.1 x0)), (1, .int x1)]) dX13_image_50 (by decide) rfl ?_
    obtain ⟨b5, eb5, h⟩ := bd0_some h
    refine r_pick [1, 2, 0] rfl ?_
    refine sX13_image_L51 hdd x0 x1 t0 (K := fun b => b = b5) ?_ 1000 ((0 : Int32), τ4) b5 eb5 rfl
    rintro τ6 rfl
    refine r_aload_n 0 dX13_image_80 rfl ?_
    refine q_getR (e9 := (3, 0)) dX13_image_81 fd_X13_123 t0 rfl h (fun r7 tr7 h => ?_)
    refine r_iload_n 1 dX13_image_84 rfl ?_
    refine r_iconst (v := 1) dX13_image_85 (by decide) ?_
    refine q_zast dX13_image_86 tr7 h (fun τ8 h => ?_)
    refine r_iconst (v := 1) dX13_image_87 (by decide) ?_
    obtain rfl := Option.some.inj h
    exact r_zreturn dX13_image_88 rfl (by decide) hQ (Nat.le_refl _) (Nat.le_refl _)
  · refine r_iconst (v := 0) dX13_image_14 (by decide) ?_
    obtain rfl := Option.some.inj h
    exact r_zreturn dX13_image_15 rfl (by decide) hQ (Nat.le_refl _) (Nat.le_refl _)
theorem tX13_restore_b23 {l : Launch} {G : gg} {Γ : ly} {d : Nat} {Q : Option Value → ly → mm → Prop} (hdd : 1 ≤ d) (σ : mm)     (r : (Int32 × mm)) (h : fX13_restore_b23 Γ.2 σ  = some r) (hQ : Q (some (.int r.1)) Γ r.2) : WP l G yX13_restore cX13_restore 3 (some .boolean) d 0 0 Q 0 0 23 [] [] Γ σ := by
  unfold fX13_restore_b23 at h
  refine r_iconst (v := 0) dX13_restore_23 (by decide) ?_
  obtain rfl := Option.some.inj h
  exact r_zreturn dX13_restore_24 rfl (by decide) hQ (Nat.le_refl _) (Nat.le_refl _)
theorem sX13_restore_L27 {l : Launch} {G : gg} {Γ : ly} {d : Nat} {Q : Option Value → ly → mm → Prop} (hdd : 1 ≤ d) (x0 : Nat) (x1 : Int32) (t0 : tyOK Γ (0, 12) x0) {K : mm → Prop} (kx0 : ∀ (σ9 : mm), K σ9 → WP l G yX13_restore cX13_restore 3 (some .boolean) d 0 0 Q 0 0 58 [(0, .ref (G.2.1 x0)), (1, .int x1)] [] Γ σ9) : ∀ (N : Nat) (s : (Int32 × mm)) (b : mm), loopN (fX13_restore_L27 Γ.2 x0 x1) N s = some b → K b → WP l G yX13_restore cX13_restore 3 (some .boolean) d 0 0 Q 0 0 27 [(0, .ref (G.2.1 x0)), (1, .int x1), (2, .int s.1)] [] Γ s.2 := by
  refine r_loop (f := fX13_restore_L27 Γ.2 x0 x1) (hlv := fun s => [(0, .ref (G.2.1 x0)), (1, .int x1), (2, .int s.1)]) (hsg := fun s => s.2) ?_
  rintro ⟨x2, σ⟩ r h hb hx
  have hb : ∀ (x2 : Int32) (σ : mm), r = .inl (x2, σ) → WP l G yX13_restore cX13_restore 3 (some .boolean) d 0 0 Q 0 0 27 [(0, .ref (G.2.1 x0)), (1, .int x1), (2, .int x2)] [] Γ σ := fun x2 σ e => hb (x2, σ) e
  have hx0 : ∀ (σ9 : mm), r = .inr σ9 → WP l G yX13_restore cX13_restore 3 (some .boolean) d 0 0 Q 0 0 58 [(0, .ref (G.2.1 x0)), (1, .int x1)] [] Γ σ9 := fun σ9 e => kx0 σ9 (hx _ e)
  unfold fX13_restore_L27 at h
  have h := un2_some h
  show WP l G yX13_restore cX13_restore 3 (some .boolean) d 0 0 Q 0 0 27 [(0, .ref (G.2.1 x0)), (1, .int x1), (2, .int x2)] [] Γ σ
  refine r_iload_n 2 dX13_restore_27 rfl ?_
  refine r_sipush (v := 383) dX13_restore_28 (by decide) ?_
  refine r_icmp_ge 58 dX13_restore_31 (by decide) h (fun _ h => ?_) (fun _ h => ?_)
  · obtain rfl := Option.some.inj h
    refine r_pick [0, 1] rfl ?_
    exact hx0 _ rfl
  · refine r_aload_n 0 dX13_restore_34 rfl ?_
    refine q_getR (e9 := (1, 0)) dX13_restore_35 fd_X13_98 t0 rfl h (fun r1 tr1 h => ?_)
    refine r_iload_n 2 dX13_restore_38 rfl ?_
    refine r_aload_n 0 dX13_restore_39 rfl ?_
    refine q_getR (e9 := (1, 0)) dX13_restore_40 fd_X13_104 t0 rfl h (fun r2 tr2 h => ?_)
    refine r_sipush (v := 383) dX13_restore_43 (by decide) ?_
    refine r_iload_n 1 dX13_restore_46 rfl ?_
    refine r_imul dX13_restore_47 ?_
    refine r_iload_n 2 dX13_restore_48 rfl ?_
    refine r_iadd dX13_restore_49 ?_
    refine q_iald dX13_restore_50 tr2 h (fun v3 h => ?_)
    refine q_iast dX13_restore_51 tr1 h (fun τ4 h => ?_)
    refine q_iinc (v := 1) 2 (fun v5 => [(2, .int v5), (0, .ref (G.2.1 x0)), (1, .int x1)]) dX13_restore_52 rfl (by decide) (by decide) (fun _ => rfl) h (fun v5 h => ?_)
    refine r_goto 27 dX13_restore_55 (by decide) ?_
    obtain rfl := Option.some.inj h
    refine r_pick [1, 2, 0] rfl ?_
    exact hb _ _ rfl
theorem sX13_restore_L60 {l : Launch} {G : gg} {Γ : ly} {d : Nat} {Q : Option Value → ly → mm → Prop} (hdd : 1 ≤ d) (x0 : Nat) (x1 : Int32) (t0 : tyOK Γ (0, 12) x0) {K : mm → Prop} (kx0 : ∀ (σ9 : mm), K σ9 → WP l G yX13_restore cX13_restore 3 (some .boolean) d 0 0 Q 0 0 89 [(0, .ref (G.2.1 x0))] [] Γ σ9) : ∀ (N : Nat) (s : (Int32 × mm)) (b : mm), loopN (fX13_restore_L60 Γ.2 x0 x1) N s = some b → K b → WP l G yX13_restore cX13_restore 3 (some .boolean) d 0 0 Q 0 0 60 [(0, .ref (G.2.1 x0)), (1, .int x1), (2, .int s.1)] [] Γ s.2 := by
  refine r_loop (f := fX13_restore_L60 Γ.2 x0 x1) (hlv := fun s => [(0, .ref (G.2.1 x0)), (1, .int x1), (2, .int s.1)]) (hsg := fun s => s.2) ?_
  rintro ⟨x2, σ⟩ r h hb hx
  have hb : ∀ (x2 : Int32) (σ : mm), r = .inl (x2, σ) → WP l G yX13_restore cX13_restore 3 (some .boolean) d 0 0 Q 0 0 60 [(0, .ref (G.2.1 x0)), (1, .int x1), (2, .int x2)] [] Γ σ := fun x2 σ e => hb (x2, σ) e
  have hx0 : ∀ (σ9 : mm), r = .inr σ9 → WP l G yX13_restore cX13_restore 3 (some .boolean) d 0 0 Q 0 0 89 [(0, .ref (G.2.1 x0))] [] Γ σ9 := fun σ9 e => kx0 σ9 (hx _ e)
  unfold fX13_restore_L60 at h
  have h := un2_some h
  show WP l G yX13_restore cX13_restore 3 (some .boolean) d 0 0 Q 0 0 60 [(0, .ref (G.2.1 x0)), (1, .int x1), (2, .int x2)] [] Γ σ
  refine r_iload_n 2 dX13_restore_60 rfl ?_
  refine r_bipush (v := 18) dX13_restore_61 (by decide) ?_
  refine r_icmp_ge 89 dX13_restore_63 (by decide) h (fun _ h => ?_) (fun _ h => ?_)
  · obtain rfl := Option.some.inj h
    refine r_pick [0] rfl ?_
    exact hx0 _ rfl
  · refine r_aload_n 0 dX13_restore_66 rfl ?_
    refine q_getR (e9 := (4, 0)) dX13_restore_67 fd_X13_113 t0 rfl h (fun r1 tr1 h => ?_)
    refine r_iload_n 2 dX13_restore_70 rfl ?_
    refine r_aload_n 0 dX13_restore_71 rfl ?_
    refine q_getR (e9 := (4, 0)) dX13_restore_72 fd_X13_120 t0 rfl h (fun r2 tr2 h => ?_)
    refine r_bipush (v := 18) dX13_restore_75 (by decide) ?_
    refine r_iload_n 1 dX13_restore_77 rfl ?_
    refine r_imul dX13_restore_78 ?_
    refine r_iload_n 2 dX13_restore_79 rfl ?_
    refine r_iadd dX13_restore_80 ?_
    refine q_lald dX13_restore_81 tr2 h (fun v3 h => ?_)
    refine q_last dX13_restore_82 tr1 h (fun τ4 h => ?_)
    refine q_iinc (v := 1) 2 (fun v5 => [(2, .int v5), (0, .ref (G.2.1 x0)), (1, .int x1)]) dX13_restore_83 rfl (by decide) (by decide) (fun _ => rfl) h (fun v5 h => ?_)
    refine r_goto 60 dX13_restore_86 (by decide) ?_
    obtain rfl := Option.some.inj h
    refine r_pick [1, 2, 0] rfl ?_
    exact hb _ _ rfl
theorem kX13_restore {l : Launch} {G : gg} {Γ : ly} {σ : mm} (d : Nat) (hdd : 1 ≤ d) (x0 : Nat) (x1 : Int32) (t0 : tyOK Γ (0, 12) x0) (r : (Int32 × mm)) (h : fX13_restore Γ.2 σ x0 x1 = some r) : CT l G yX13_restore cX13_restore 3 (some .boolean) d 0 0 [.ref (G.2.1 x0), .int x1] Γ σ (PP (some (.int r.1)) Γ r.2) := by
  refine CT.ofWP (by decide) (Nat.le_of_ble_eq_true rfl) ?_
  have hQ : PP (some (.int r.1)) Γ r.2 (some (.int r.1)) Γ r.2 := PP.self
  generalize PP (some (.int r.1)) Γ r.2 = Q at hQ ⊢
  show WP l G yX13_restore cX13_restore 3 (some .boolean) d 0 0 Q 0 0 0 [(0, .ref (G.2.1 x0)), (1, .int x1)] [] Γ σ
  unfold fX13_restore at h
  refine r_aload_n 0 dX13_restore_0 rfl ?_
  refine r_iconst (v := 0) dX13_restore_1 (by decide) ?_
  refine q_putI dX13_restore_2 fd_X13_1 t0 h (fun τ1 h => ?_)
  refine r_iload_n 1 dX13_restore_5 rfl ?_
  refine r_iconst (v := 0) dX13_restore_6 (by decide) ?_
  refine r_iconst (v := 1) dX13_restore_7 (by decide) ?_
  obtain ⟨v2, ev2, h⟩ := bd0_some h
  refine q_cSI [.int x1, .int (0 : Int32), .int (1 : Int32)] dX13_restore_8 cs_X13_75 rfl rfl (Nat.le_of_ble_eq_true rfl) (by omega) (kX13_isIn (d - 1) (by omega) x1 (0 : Int32) (1 : Int32)  v2 ev2) ?_
  refine r_if_eq 23 dX13_restore_11 (by decide) h (fun _ h => ?_) (fun _ h => ?_)
  · refine r_pick [] rfl ?_
    exact tX13_restore_b23 hdd τ1  _ h hQ
  · refine r_aload_n 0 dX13_restore_14 rfl ?_
    refine q_getR (e9 := (3, 0)) dX13_restore_15 fd_X13_123 t0 rfl h (fun r3 tr3 h => ?_)
    refine r_iload_n 1 dX13_restore_18 rfl ?_
    refine q_zald dX13_restore_19 tr3 h (fun v4 h => ?_)
    refine r_if_ne 25 dX13_restore_20 (by decide) h (fun _ h => ?_) (fun _ h => ?_)
    · refine r_iconst (v := 0) dX13_restore_25 (by decide) ?_
      refine r_istore_n (lv' := [(2, .int (0 : Int32)), (0, .ref (G.2.1 x0)), (1, .int x1)]) dX13_restore_26 (by decide) rfl ?_
      obtain ⟨b5, eb5, h⟩ := bd0_some h
      refine r_pick [1, 2, 0] rfl ?_
      refine sX13_restore_L27 hdd x0 x1 t0 (K := fun b => b = b5) ?_ 1000 ((0 : Int32), τ1) b5 eb5 rfl
      rintro τ6 rfl
      refine r_iconst (v := 0) dX13_restore_58 (by decide) ?_
      refine r_istore_n (lv' := [(2, .int (0 : Int32)), (0, .ref (G.2.1 x0)), (1, .int x1)]) dX13_restore_59 (by decide) rfl ?_
      obtain ⟨b7, eb7, h⟩ := bd0_some h
      refine r_pick [1, 2, 0] rfl ?_
      refine sX13_restore_L60 hdd x0 x1 t0 (K := fun b => b = b7) ?_ 1000 ((0 : Int32), τ6) b7 eb7 rfl
      rintro τ8 rfl
      refine r_aload_n 0 dX13_restore_89 rfl ?_
      refine r_iconst (v := 0) dX13_restore_90 (by decide) ?_
      refine q_putI dX13_restore_91 fd_X13_221 t0 h (fun τ9 h => ?_)
      refine r_iconst (v := 1) dX13_restore_94 (by decide) ?_
      obtain rfl := Option.some.inj h
      exact r_zreturn dX13_restore_95 rfl (by decide) hQ (Nat.le_refl _) (Nat.le_refl _)
    · refine r_pick [] rfl ?_
      exact tX13_restore_b23 hdd τ1  _ h hQ
theorem kX13_count {l : Launch} {G : gg} {Γ : ly} {σ : mm} (d : Nat) (hdd : 0 ≤ d) (x0 : Nat) (x1 : Int32) (t0 : tyOK Γ (0, 12) x0) (r : (Int32 × mm)) (h : fX13_count Γ.2 σ x0 x1 = some r) : CT l G yX13_count cX13_count 2 (some .int) d 0 0 [.ref (G.2.1 x0), .int x1] Γ σ (PP (some (.int r.1)) Γ r.2) := by
  refine CT.ofWP (by decide) (Nat.le_of_ble_eq_true rfl) ?_
  have hQ : PP (some (.int r.1)) Γ r.2 (some (.int r.1)) Γ r.2 := PP.self
  generalize PP (some (.int r.1)) Γ r.2 = Q at hQ ⊢
  show WP l G yX13_count cX13_count 2 (some .int) d 0 0 Q 0 0 0 [(0, .ref (G.2.1 x0)), (1, .int x1)] [] Γ σ
  unfold fX13_count at h
  refine r_aload_n 0 dX13_count_0 rfl ?_
  refine r_iconst (v := 0) dX13_count_1 (by decide) ?_
  refine q_putI dX13_count_2 fd_X13_1 t0 h (fun τ1 h => ?_)
  refine r_iload_n 1 dX13_count_5 rfl ?_
  rcases if_split h with ⟨q9, h⟩ | ⟨n0, h⟩
  · refine r_table (0 : Int32) 50 56 dX13_count_6 q9 (by decide) (by decide) rfl (by decide) ?_
    refine r_aload_n 0 dX13_count_56 rfl ?_
    refine q_getR (e9 := (1, 0)) dX13_count_57 fd_X13_98 t0 rfl h (fun r2 tr2 h => ?_)
    refine r_iconst (v := 0) dX13_count_60 (by decide) ?_
    refine q_iald dX13_count_61 tr2 h (fun v3 h => ?_)
    obtain rfl := Option.some.inj h
    exact r_ireturn dX13_count_62 rfl hQ (Nat.le_refl _) (Nat.le_refl _)
  rcases if_split h with ⟨q9, h⟩ | ⟨n1, h⟩
  · refine r_table (1 : Int32) 57 63 dX13_count_6 q9 (by decide) (by decide) rfl (by decide) ?_
    refine r_aload_n 0 dX13_count_63 rfl ?_
    refine q_getR (e9 := (1, 0)) dX13_count_64 fd_X13_98 t0 rfl h (fun r4 tr4 h => ?_)
    refine r_iconst (v := 1) dX13_count_67 (by decide) ?_
    refine q_iald dX13_count_68 tr4 h (fun v5 h => ?_)
    obtain rfl := Option.some.inj h
    exact r_ireturn dX13_count_69 rfl hQ (Nat.le_refl _) (Nat.le_refl _)
  rcases if_split h with ⟨q9, h⟩ | ⟨n2, h⟩
  · refine r_table (2 : Int32) 64 70 dX13_count_6 q9 (by decide) (by decide) rfl (by decide) ?_
    refine r_aload_n 0 dX13_count_70 rfl ?_
    refine q_getR (e9 := (1, 0)) dX13_count_71 fd_X13_98 t0 rfl h (fun r6 tr6 h => ?_)
    refine r_iconst (v := 2) dX13_count_74 (by decide) ?_
    refine q_iald dX13_count_75 tr6 h (fun v7 h => ?_)
    obtain rfl := Option.some.inj h
    exact r_ireturn dX13_count_76 rfl hQ (Nat.le_refl _) (Nat.le_refl _)
  rcases if_split h with ⟨q9, h⟩ | ⟨n3, h⟩
  · refine r_table (3 : Int32) 71 77 dX13_count_6 q9 (by decide) (by decide) rfl (by decide) ?_
    refine r_aload_n 0 dX13_count_77 rfl ?_
    refine q_getR (e9 := (1, 0)) dX13_count_78 fd_X13_98 t0 rfl h (fun r8 tr8 h => ?_)
    refine r_iconst (v := 3) dX13_count_81 (by decide) ?_
    refine q_iald dX13_count_82 tr8 h (fun v9 h => ?_)
    obtain rfl := Option.some.inj h
    exact r_ireturn dX13_count_83 rfl hQ (Nat.le_refl _) (Nat.le_refl _)
  rcases if_split h with ⟨q9, h⟩ | ⟨n4, h⟩
  · refine r_table (4 : Int32) 78 84 dX13_count_6 q9 (by decide) (by decide) rfl (by decide) ?_
    refine r_aload_n 0 dX13_count_84 rfl ?_
    refine q_getR (e9 := (1, 0)) dX13_count_85 fd_X13_98 t0 rfl h (fun r10 tr10 h => ?_)
    refine r_iconst (v := 4) dX13_count_88 (by decide) ?_
    refine q_iald dX13_count_89 tr10 h (fun v11 h => ?_)
    obtain rfl := Option.some.inj h
    exact r_ireturn dX13_count_90 rfl hQ (Nat.le_refl _) (Nat.le_refl _)
  rcases if_split h with ⟨q9, h⟩ | ⟨n5, h⟩
  · refine r_table (5 : Int32) 85 91 dX13_count_6 q9 (by decide) (by decide) rfl (by decide) ?_
    refine r_aload_n 0 dX13_count_91 rfl ?_
    refine q_getR (e9 := (1, 0)) dX13_count_92 fd_X13_98 t0 rfl h (fun r12 tr12 h => ?_)
    refine r_iconst (v := 5) dX13_count_95 (by decide) ?_
    refine q_iald dX13_count_96 tr12 h (fun v13 h => ?_)
    obtain rfl := Option.some.inj h
    exact r_ireturn dX13_count_97 rfl hQ (Nat.le_refl _) (Nat.le_refl _)
  rcases if_split h with ⟨q9, h⟩ | ⟨n6, h⟩
  · refine r_table (6 : Int32) 92 98 dX13_count_6 q9 (by decide) (by decide) rfl (by decide) ?_
    refine r_aload_n 0 dX13_count_98 rfl ?_
    refine q_getR (e9 := (1, 0)) dX13_count_99 fd_X13_98 t0 rfl h (fun r14 tr14 h => ?_)
    refine r_bipush (v := 6) dX13_count_102 (by decide) ?_
    refine q_iald dX13_count_104 tr14 h (fun v15 h => ?_)
    obtain rfl := Option.some.inj h
    exact r_ireturn dX13_count_105 rfl hQ (Nat.le_refl _) (Nat.le_refl _)
  rcases if_split h with ⟨q9, h⟩ | ⟨n7, h⟩
  · refine r_table (7 : Int32) 100 106 dX13_count_6 q9 (by decide) (by decide) rfl (by decide) ?_
    refine r_aload_n 0 dX13_count_106 rfl ?_
    refine q_getR (e9 := (1, 0)) dX13_count_107 fd_X13_98 t0 rfl h (fun r16 tr16 h => ?_)
    refine r_bipush (v := 7) dX13_count_110 (by decide) ?_
    refine q_iald dX13_count_112 tr16 h (fun v17 h => ?_)
    obtain rfl := Option.some.inj h
    exact r_ireturn dX13_count_113 rfl hQ (Nat.le_refl _) (Nat.le_refl _)
  rcases if_split h with ⟨q9, h⟩ | ⟨n8, h⟩
  · refine r_table (8 : Int32) 108 114 dX13_count_6 q9 (by decide) (by decide) rfl (by decide) ?_
    refine r_aload_n 0 dX13_count_114 rfl ?_
    refine r_getI dX13_count_115 fd_X13_11 t0 ?_
    obtain rfl := Option.some.inj h
    exact r_ireturn dX13_count_118 rfl hQ (Nat.le_refl _) (Nat.le_refl _)
  have n0 := ne_int n0 (z := 0) rfl
  have n1 := ne_int n1 (z := 1) rfl
  have n2 := ne_int n2 (z := 2) rfl
  have n3 := ne_int n3 (z := 3) rfl
  have n4 := ne_int n4 (z := 4) rfl
  have n5 := ne_int n5 (z := 5) rfl
  have n6 := ne_int n6 (z := 6) rfl
  have n7 := ne_int n7 (z := 7) rfl
  have n8 := ne_int n8 (z := 8) rfl
  refine r_tableD 119 dX13_count_6 (by omega) (by decide) ?_
  refine r_iconst (v := -1) dX13_count_119 (by decide) ?_
  obtain rfl := Option.some.inj h
  exact r_ireturn dX13_count_120 rfl hQ (Nat.le_refl _) (Nat.le_refl _)
