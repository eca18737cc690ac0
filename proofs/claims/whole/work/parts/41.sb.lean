/-! new StringBuilder(): its own cell, and 16 bytes -/
theorem fd_J5_15 : FD RJ5 15 0 0 2 (tyJ4 0) false := ⟨RJ4, TJ4, 4, tyJ4, rfl, rfl, inJ4, tyJ4_ok, nmJ4, by decide, rfl, rfl, rfl, gw1 636 (by decide +kernel) (by decide +kernel)⟩
theorem fd_J5_22 : FD RJ5 22 0 1 0 (tyJ4 1) false := ⟨RJ4, TJ4, 4, tyJ4, rfl, rfl, inJ4, tyJ4_ok, nmJ4, by decide, rfl, rfl, rfl, gw1 637 (by decide +kernel) (by decide +kernel)⟩
theorem fw_J5_18 : Cond.fieldLink RJ5 18 "java/lang/String" "COMPACT_STRINGS" "Z" ∈ gw := gw1 627 (by decide +kernel) (by decide +kernel)
theorem oi_J5_3 : Cond.methodLink RJ5 3 Lib.objectInit ∈ gw := gw1 626 (by decide +kernel) (by decide +kernel)
theorem ci_J4_1 : CId RJ4 1 yJ5_init_d00df cJ5_init_d00df 2 1 := ⟨gw1 623 (by decide +kernel) (by decide +kernel), gw1 624 (by decide +kernel) (by decide +kernel), gw1 155 (by decide +kernel) (by decide +kernel), gw1 625 (by decide +kernel) (by decide +kernel), by decide, rfl, by decide +kernel⟩
section SB
variable {l : Launch} {G : gg} {y : MethodName} {cc : ByteArray} {nL : Nat} {ret : Option FieldType} {d mc ms : Nat} {Q : Option Value → ly → mm → Prop} {k n pc : Nat} {lv : List (Nat × Value)} {st : List Value} {Γ : ly} {σ : mm} {a : Nat}
theorem r_compact {index : Nat} (hd : decode cc pc = .ok (.getstatic index, 3)) (hl : Cond.fieldLink y.cls index "java/lang/String" "COMPACT_STRINGS" "Z" ∈ gw) (kk : WP l G y cc nL ret d mc ms Q k n (pc + 3) lv (.int 1 :: st) Γ σ) : WP l G y cc nL ret d mc ms Q k n pc lv st Γ σ :=
  fun p e s m args below meth c H locs ls A Rp S L => va_gets A.1 A.2.1 A.2.2.2.2.2.2.2.2.kx.2.2.2.2.1 S A.2.2.2.1 (A.2.2.2.2.1 _ (List.mem_cons_of_mem _ hl)) (fun _ h => h) hd (kk p e s m args below meth c H locs ls A Rp S L)
theorem r_ifeqF {x : Int32} {off : Int} {tgt : Nat} (hd : decode cc pc = .ok (.ifCond .eq off, 3)) (ht : (pc : Int) + off = (tgt : Int)) (hc : ¬ x = 0) (kk : WP l G y cc nL ret d mc ms Q k n (pc + 3) lv st Γ σ) : WP l G y cc nL ret d mc ms Q k n pc lv (.int x :: st) Γ σ :=
  fun p e s m args below meth c H locs ls A Rp S L => lv_if_eq A.1 A.2.1 hd ht (fun q => absurd q hc) (fun _ => kk p e s m args below meth c H locs ls A Rp S L)
theorem q_putRa {index ci j b : Nat} {fty : FieldType} {e9 : Nat × Nat} {α : Type} {F : mm → Option α} {r : α} (hd : decode cc pc = .ok (.putfield index, 3)) (D : FD y.cls index ci j 2 fty false) (hfo : ∃ C, fty = .array C) (ht : tyOK Γ (0, ci) a) (he : c_r ci j = e9) (hb : tyOK Γ e9 b) (hf : wR σ a j b F = some r) (kk : ∀ σ', F σ' = some r → WP l G y cc nL ret d mc ms Q k n (pc + 3) lv st Γ σ') : WP l G y cc nL ret d mc ms Q k n pc lv (.ref (G.2.1 b) :: .ref (G.2.1 a) :: st) Γ σ := by
  have hkt : c_t ci j = 2 := by obtain ⟨C, T, N, ty, hc, hN, hin, hty, hnm, hj, hkt, -⟩ := D; exact hkt
  obtain ⟨C9, rfl⟩ := hfo
  refine r_put (σ' := (σ.1, σ.2.1, up2 σ.2.2 a j (some b))) hd D ht rfl rfl (fun _ _ => rfl) (fun _ _ => rfl) (fun k hk => up2_ne hk) (fun h => wtp_put h ht (he ▸ hb)) (fun i hi => ?_) (kk _ hf)
  by_cases hij : i = j
  · subst hij
    rw [if_pos rfl, hkt]
    simp [h_v, up2, va_rf]
  · rw [if_neg hij]
    unfold h_v
    simp [up2_eq, hij]
theorem q_putB0 {index ci j : Nat} {α : Type} {F : mm → Option α} {r : α} (hd : decode cc pc = .ok (.putfield index, 3)) (D : FD y.cls index ci j 0 .byte false) (ht : tyOK Γ (0, ci) a) (hf : wI σ a j 0 F = some r) (kk : ∀ σ', F σ' = some r → WP l G y cc nL ret d mc ms Q k n (pc + 3) lv st Γ σ') : WP l G y cc nL ret d mc ms Q k n pc lv (.int 0 :: .ref (G.2.1 a) :: st) Γ σ := by
  have hkt : c_t ci j = 0 := by obtain ⟨C, T, N, ty, hc, hN, hin, hty, hnm, hj, hkt, -⟩ := D; exact hkt
  refine r_put (σ' := (up2 σ.1 a j 0, σ.2.1, σ.2.2)) hd D ht (by decide) (by decide) (fun k hk => up2_ne hk) (fun _ _ => rfl) (fun _ _ => rfl) (fun h => h) (fun i hi => ?_) (kk _ hf)
  by_cases hij : i = j
  · subst hij
    rw [if_pos rfl, hkt]
    simp [h_v, up2]
  · rw [if_neg hij]
    unfold h_v
    simp [up2_eq, hij]
end SB
def fJ5_init_d00df (Γ : ly) (σ : mm) (x0 : Nat) : Option (ly × mm) :=
  nwC Γ σ (2, 16) fun γ1 τ1 =>
  wR τ1 x0 0 Γ.1 fun τ2 =>
  wI τ2 x0 1 0 fun τ3 =>
  some (γ1, τ3)
theorem kJ5_init_d00df {l : Launch} {G : gg} {Γ : ly} {σ : mm} (d : Nat) (hdd : 1 ≤ d) (hfr : G.1.2.2 = true) (hL : G.1.1 + Γ.1 + 1 ≤ G.1.2.1 + 64) (x0 : Nat) (t0 : tyOK Γ (0, 0) x0) (r : ly × mm) (h : fJ5_init_d00df Γ σ x0 = some r) : CT l G yJ5_init_d00df cJ5_init_d00df 2 none d 1 16 [.ref (G.2.1 x0), .int 16] Γ σ (fun v Γ' σ' => v = none ∧ Γ' = r.1 ∧ σ' = r.2 ∧ Γ'.1 = Γ.1 + 1 ∧ ∀ e b, tyOK Γ e b → tyOK Γ' e b) := by
  refine CT.ofWP (by decide) (Nat.le_of_ble_eq_true rfl) ?_
  show WP l G yJ5_init_d00df cJ5_init_d00df 2 none d 1 16 (fun v Γ' σ' => v = none ∧ Γ' = r.1 ∧ σ' = r.2 ∧ Γ'.1 = Γ.1 + 1 ∧ ∀ e b, tyOK Γ e b → tyOK Γ' e b) 0 0 0 [(0, .ref (G.2.1 x0)), (1, .int 16)] [] Γ σ
  unfold fJ5_init_d00df at h
  refine r_aload_n 0 dJ5_init_d00df_0 rfl ?_
  refine r_objInit dJ5_init_d00df_1 oi_J5_3 oi_i oi_c (by omega) (Nat.le_of_ble_eq_true rfl) ?_
  refine r_compact dJ5_init_d00df_4 fw_J5_18 ?_
  refine r_ifeqF (tgt := 25) dJ5_init_d00df_7 (by decide) (by decide) ?_
  refine r_aload_n 0 dJ5_init_d00df_10 rfl ?_
  refine r_iload_n 1 dJ5_init_d00df_11 rfl ?_
  refine r_newa2' (N := 16) dJ5_init_d00df_12 ak_2 hfr (by decide) (by decide) (by decide) (by omega) (by omega) (by omega) h (fun γ1 τ1 q1 gr1 tn1 h => ?_)
  refine q_putRa (e9 := (2, 0)) dJ5_init_d00df_14 fd_J5_15 ⟨_, rfl⟩ (gr1 _ _ t0) rfl tn1 h (fun τ2 h => ?_)
  refine r_aload_n 0 dJ5_init_d00df_17 rfl ?_
  refine r_iconst (v := 0) dJ5_init_d00df_18 (by decide) ?_
  refine q_putB0 dJ5_init_d00df_19 fd_J5_22 (gr1 _ _ t0) h (fun τ3 h => ?_)
  refine r_goto 38 dJ5_init_d00df_22 (by decide) ?_
  obtain rfl := Option.some.inj h
  exact r_return dJ5_init_d00df_38 rfl ⟨rfl, rfl, rfl, by (try dsimp only); omega, fun e9 b9 q9 => gr1 _ _ q9⟩ (by omega) (by omega)
def fJ4_init_da8c8 (Γ : ly) (σ : mm) (x0 : Nat) : Option (ly × mm) := bdC (fJ5_init_d00df Γ σ x0) fun γ1 τ1 => some (γ1, τ1)
theorem kJ4_init_da8c8 {l : Launch} {G : gg} {Γ : ly} {σ : mm} (d : Nat) (hdd : 2 ≤ d) (hfr : G.1.2.2 = true) (hL : G.1.1 + Γ.1 + 1 ≤ G.1.2.1 + 64) (x0 : Nat) (t0 : tyOK Γ (0, 0) x0) (r : ly × mm) (h : fJ4_init_da8c8 Γ σ x0 = some r) : CT l G yJ4_init_da8c8 cJ4_init_da8c8 1 none d 1 16 [.ref (G.2.1 x0)] Γ σ (fun v Γ' σ' => v = none ∧ Γ' = r.1 ∧ σ' = r.2 ∧ Γ'.1 = Γ.1 + 1 ∧ ∀ e b, tyOK Γ e b → tyOK Γ' e b) := by
  refine CT.ofWP (by decide) (Nat.le_of_ble_eq_true rfl) ?_
  show WP l G yJ4_init_da8c8 cJ4_init_da8c8 1 none d 1 16 (fun v Γ' σ' => v = none ∧ Γ' = r.1 ∧ σ' = r.2 ∧ Γ'.1 = Γ.1 + 1 ∧ ∀ e b, tyOK Γ e b → tyOK Γ' e b) 0 0 0 [(0, .ref (G.2.1 x0))] [] Γ σ
  unfold fJ4_init_da8c8 at h
  refine r_aload_n 0 dJ4_init_da8c8_0 rfl ?_
  refine r_bipush (v := 16) dJ4_init_da8c8_1 (by decide) ?_
  obtain ⟨γ1, τ1, e1, h⟩ := bdC_some h
  refine q_cI 1 16 [.int 16] (g := γ1) (t := τ1) dJ4_init_da8c8_3 ci_J4_1 rfl rfl (Nat.le_of_ble_eq_true rfl) (by omega) (by omega) (by omega) (kJ5_init_d00df (d - 1) (by omega) hfr (by omega) x0 t0 (γ1, τ1) e1) (fun q1 gr1 => ?_)
  obtain rfl := Option.some.inj h
  exact r_return dJ4_init_da8c8_6 rfl ⟨rfl, rfl, rfl, by (try dsimp only); omega, fun e9 b9 q9 => gr1 _ _ q9⟩ (by omega) (by omega)
