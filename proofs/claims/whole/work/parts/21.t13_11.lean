/-! the walks, 11 -/
theorem tX13_readGlassDoes_b64 {l : Launch} {G : gg} {Γ : ly} {d : Nat} {Q : Option Value → ly → mm → Prop} (hdd : 4 ≤ d) (σ : mm)  (s0 : Int32)   (r : (Int32 × mm)) (h : fX13_readGlassDoes_b64 Γ.2 σ s0 = some r) (hQ : Q (some (.int r.1)) Γ r.2) : WP l G yX13_readGlassDoes cX13_readGlassDoes 2 (some .boolean) d 0 0 Q 0 0 64 [] [.int s0] Γ σ := by
  unfold fX13_readGlassDoes_b64 at h
  obtain ⟨hbz, h⟩ := rZ_some h
  obtain rfl := Option.some.inj h
  exact r_zreturn dX13_readGlassDoes_64 rfl hbz hQ (Nat.le_refl _) (Nat.le_refl _)
theorem kX13_readGlassDoes {l : Launch} {G : gg} {Γ : ly} {σ : mm} (d : Nat) (hdd : 4 ≤ d) (x0 : Nat) (x1 : Int32) (t0 : tyOK Γ (0, 12) x0) (r : (Int32 × mm)) (h : fX13_readGlassDoes Γ.2 σ x0 x1 = some r) : CT l G yX13_readGlassDoes cX13_readGlassDoes 2 (some .boolean) d 0 0 [.ref (G.2.1 x0), .int x1] Γ σ (PP (some (.int r.1)) Γ r.2) := by
  refine CT.ofWP (by decide) (Nat.le_of_ble_eq_true rfl) ?_
  have hQ : PP (some (.int r.1)) Γ r.2 (some (.int r.1)) Γ r.2 := PP.self
  generalize PP (some (.int r.1)) Γ r.2 = Q at hQ ⊢
  show WP l G yX13_readGlassDoes cX13_readGlassDoes 2 (some .boolean) d 0 0 Q 0 0 0 [(0, .ref (G.2.1 x0)), (1, .int x1)] [] Γ σ
  unfold fX13_readGlassDoes at h
  refine r_aload_n 0 dX13_readGlassDoes_0 rfl ?_
  refine r_bipush (v := 13) dX13_readGlassDoes_1 (by decide) ?_
  obtain ⟨v1, ev1, h⟩ := bd0_some h
  refine q_cVI [.int (13 : Int32)] dX13_readGlassDoes_3 cv_X13_191 (ci := 12) rfl rfl t0 rfl rfl (Nat.le_of_ble_eq_true rfl) (by omega) (kX13_isWord (d - 1) (by omega) x0 (13 : Int32) t0 v1 ev1) ?_
  refine r_if_eq 18 dX13_readGlassDoes_6 (by decide) h (fun _ h => ?_) (fun _ h => ?_)
  · refine r_aload_n 0 dX13_readGlassDoes_18 rfl ?_
    refine r_bipush (v := 14) dX13_readGlassDoes_19 (by decide) ?_
    obtain ⟨v2, ev2, h⟩ := bd0_some h
    refine q_cVI [.int (14 : Int32)] dX13_readGlassDoes_21 cv_X13_191 (ci := 12) rfl rfl t0 rfl rfl (Nat.le_of_ble_eq_true rfl) (by omega) (kX13_isWord (d - 1) (by omega) x0 (14 : Int32) t0 v2 ev2) ?_
    refine r_if_eq 37 dX13_readGlassDoes_24 (by decide) h (fun _ h => ?_) (fun _ h => ?_)
    · refine r_aload_n 0 dX13_readGlassDoes_37 rfl ?_
      refine r_bipush (v := 15) dX13_readGlassDoes_38 (by decide) ?_
      obtain ⟨v3, ev3, h⟩ := bd0_some h
      refine q_cVI [.int (15 : Int32)] dX13_readGlassDoes_40 cv_X13_191 (ci := 12) rfl rfl t0 rfl rfl (Nat.le_of_ble_eq_true rfl) (by omega) (kX13_isWord (d - 1) (by omega) x0 (15 : Int32) t0 v3 ev3) ?_
      refine r_if_eq 59 dX13_readGlassDoes_43 (by decide) h (fun _ h => ?_) (fun _ h => ?_)
      · refine r_aload_n 0 dX13_readGlassDoes_59 rfl ?_
        refine r_iconst (v := 1) dX13_readGlassDoes_60 (by decide) ?_
        obtain ⟨v4, τ5, ev4, h⟩ := bd2_some h
        refine q_cVI [.int (1 : Int32)] dX13_readGlassDoes_61 cv_X13_72 (ci := 12) rfl rfl t0 rfl rfl (Nat.le_of_ble_eq_true rfl) (by omega) (kX13_bad (d - 1) (by omega) x0 (1 : Int32) t0 (v4, τ5) ev4) ?_
        refine r_pick [] rfl ?_
        exact tX13_readGlassDoes_b64 hdd τ5 v4  _ h hQ
      · refine r_aload_n 0 dX13_readGlassDoes_46 rfl ?_
        refine r_iload_n 1 dX13_readGlassDoes_47 rfl ?_
        refine r_iconst (v := 5) dX13_readGlassDoes_48 (by decide) ?_
        refine r_iconst (v := 1) dX13_readGlassDoes_49 (by decide) ?_
        refine r_sipush (v := 250) dX13_readGlassDoes_50 (by decide) ?_
        obtain ⟨v6, τ7, ev6, h⟩ := bd2_some h
        refine q_cVI [.int x1, .int (5 : Int32), .int (1 : Int32), .int (250 : Int32)] dX13_readGlassDoes_53 cv_X13_387 (ci := 12) rfl rfl t0 rfl rfl (Nat.le_of_ble_eq_true rfl) (by omega) (kX13_readCount (d - 1) (by omega) x0 x1 (5 : Int32) (1 : Int32) (250 : Int32) t0 (v6, τ7) ev6) ?_
        refine r_goto 64 dX13_readGlassDoes_56 (by decide) ?_
        refine r_pick [] rfl ?_
        exact tX13_readGlassDoes_b64 hdd τ7 v6  _ h hQ
    · refine r_aload_n 0 dX13_readGlassDoes_27 rfl ?_
      refine r_iload_n 1 dX13_readGlassDoes_28 rfl ?_
      refine r_iconst (v := 4) dX13_readGlassDoes_29 (by decide) ?_
      refine r_iconst (v := 1) dX13_readGlassDoes_30 (by decide) ?_
      refine r_bipush (v := 8) dX13_readGlassDoes_31 (by decide) ?_
      obtain ⟨v8, τ9, ev8, h⟩ := bd2_some h
      refine q_cVI [.int x1, .int (4 : Int32), .int (1 : Int32), .int (8 : Int32)] dX13_readGlassDoes_33 cv_X13_387 (ci := 12) rfl rfl t0 rfl rfl (Nat.le_of_ble_eq_true rfl) (by omega) (kX13_readCount (d - 1) (by omega) x0 x1 (4 : Int32) (1 : Int32) (8 : Int32) t0 (v8, τ9) ev8) ?_
      obtain ⟨hbz, h⟩ := rZ_some h
      obtain rfl := Option.some.inj h
      exact r_zreturn dX13_readGlassDoes_36 rfl hbz hQ (Nat.le_refl _) (Nat.le_refl _)
  · refine r_aload_n 0 dX13_readGlassDoes_9 rfl ?_
    refine r_iload_n 1 dX13_readGlassDoes_10 rfl ?_
    refine r_iconst (v := 3) dX13_readGlassDoes_11 (by decide) ?_
    refine r_iconst (v := 0) dX13_readGlassDoes_12 (by decide) ?_
    refine r_iconst (v := 2) dX13_readGlassDoes_13 (by decide) ?_
    obtain ⟨v10, τ11, ev10, h⟩ := bd2_some h
    refine q_cVI [.int x1, .int (3 : Int32), .int (0 : Int32), .int (2 : Int32)] dX13_readGlassDoes_14 cv_X13_387 (ci := 12) rfl rfl t0 rfl rfl (Nat.le_of_ble_eq_true rfl) (by omega) (kX13_readCount (d - 1) (by omega) x0 x1 (3 : Int32) (0 : Int32) (2 : Int32) t0 (v10, τ11) ev10) ?_
    obtain ⟨hbz, h⟩ := rZ_some h
    obtain rfl := Option.some.inj h
    exact r_zreturn dX13_readGlassDoes_17 rfl hbz hQ (Nat.le_refl _) (Nat.le_refl _)
theorem tX13_readRollLine_b214 {l : Launch} {G : gg} {Γ : ly} {d : Nat} {Q : Option Value → ly → mm → Prop} (hdd : 5 ≤ d) (σ : mm)  (s0 : Int32)   (r : (Int32 × mm)) (h : fX13_readRollLine_b214 Γ.2 σ s0 = some r) (hQ : Q (some (.int r.1)) Γ r.2) : WP l G yX13_readRollLine cX13_readRollLine 5 (some .boolean) d 0 0 Q 0 0 214 [] [.int s0] Γ σ := by
  unfold fX13_readRollLine_b214 at h
  obtain ⟨hbz, h⟩ := rZ_some h
  obtain rfl := Option.some.inj h
  exact r_zreturn dX13_readRollLine_214 rfl hbz hQ (Nat.le_refl _) (Nat.le_refl _)
theorem tX13_readRollLine_b213 {l : Launch} {G : gg} {Γ : ly} {d : Nat} {Q : Option Value → ly → mm → Prop} (hdd : 5 ≤ d) (σ : mm)     (r : (Int32 × mm)) (h : fX13_readRollLine_b213 Γ.2 σ  = some r) (hQ : Q (some (.int r.1)) Γ r.2) : WP l G yX13_readRollLine cX13_readRollLine 5 (some .boolean) d 0 0 Q 0 0 213 [] [] Γ σ := by
  unfold fX13_readRollLine_b213 at h
  refine r_iconst (v := 0) dX13_readRollLine_213 (by decide) ?_
  exact tX13_readRollLine_b214 hdd σ (0 : Int32)  _ h hQ
theorem tX13_readRollLine_b202 {l : Launch} {G : gg} {Γ : ly} {d : Nat} {Q : Option Value → ly → mm → Prop} (hdd : 5 ≤ d) (σ : mm) (x0 : Nat)  (t0 : tyOK Γ (0, 12) x0)  (r : (Int32 × mm)) (h : fX13_readRollLine_b202 Γ.2 σ x0 = some r) (hQ : Q (some (.int r.1)) Γ r.2) : WP l G yX13_readRollLine cX13_readRollLine 5 (some .boolean) d 0 0 Q 0 0 202 [(0, .ref (G.2.1 x0))] [] Γ σ := by
  unfold fX13_readRollLine_b202 at h
  refine r_aload_n 0 dX13_readRollLine_202 rfl ?_
  obtain ⟨v1, τ2, ev1, h⟩ := bd2_some h
  refine q_cVI [] dX13_readRollLine_203 cv_X13_218 (ci := 12) rfl rfl t0 rfl rfl (Nat.le_of_ble_eq_true rfl) (by omega) (kX13_readEnd (d - 1) (by omega) x0 t0 (v1, τ2) ev1) ?_
  refine r_if_eq 213 dX13_readRollLine_206 (by decide) h (fun _ h => ?_) (fun _ h => ?_)
  · refine r_pick [] rfl ?_
    exact tX13_readRollLine_b213 hdd τ2  _ h hQ
  · refine r_iconst (v := 1) dX13_readRollLine_209 (by decide) ?_
    refine r_goto 214 dX13_readRollLine_210 (by decide) ?_
    refine r_pick [] rfl ?_
    exact tX13_readRollLine_b214 hdd τ2 (1 : Int32)  _ h hQ
theorem tX13_readRollLine_b175 {l : Launch} {G : gg} {Γ : ly} {d : Nat} {Q : Option Value → ly → mm → Prop} (hdd : 5 ≤ d) (σ : mm) (x0 : Nat) (x2 : Int32) (x4 : Int32) (s0 : Nat) (s1 : Int32) (s2 : Int32) (t0 : tyOK Γ (0, 12) x0) (u0 : tyOK Γ (1, 0) s0) (r : (Int32 × mm)) (h : fX13_readRollLine_b175 Γ.2 σ x0 x2 x4 s0 s1 s2 = some r) (hQ : Q (some (.int r.1)) Γ r.2) : WP l G yX13_readRollLine cX13_readRollLine 5 (some .boolean) d 0 0 Q 0 0 175 [(0, .ref (G.2.1 x0)), (2, .int x2), (4, .int x4)] [.int s2, .int s1, .ref (G.2.1 s0)] Γ σ := by
  unfold fX13_readRollLine_b175 at h
  refine q_iast dX13_readRollLine_175 u0 h (fun τ1 h => ?_)
  refine r_iload_n 1 dX13_readRollLine_176 rfl ?_
  refine r_iconst (v := -1) dX13_readRollLine_177 (by decide) ?_
  refine r_icmp_ne 193 dX13_readRollLine_178 (by decide) h (fun _ h => ?_) (fun _ h => ?_)
  · refine r_aload_n 0 dX13_readRollLine_193 rfl ?_
    refine r_iload 2 dX13_readRollLine_194 rfl ?_
    obtain ⟨v2, τ3, ev2, h⟩ := bd2_some h
    refine q_cVI [.int x4] dX13_readRollLine_196 cv_X13_397 (ci := 12) rfl rfl t0 rfl rfl (Nat.le_of_ble_eq_true rfl) (by omega) (kX13_readPersonDoes (d - 1) (by omega) x0 x4 t0 (v2, τ3) ev2) ?_
    refine r_if_eq 213 dX13_readRollLine_199 (by decide) h (fun _ h => ?_) (fun _ h => ?_)
    · refine r_pick [] rfl ?_
      exact tX13_readRollLine_b213 hdd τ3  _ h hQ
    · refine r_pick [0] rfl ?_
      exact tX13_readRollLine_b202 hdd τ3 x0 t0 _ h hQ
  · refine r_aload_n 0 dX13_readRollLine_181 rfl ?_
    refine r_iload 2 dX13_readRollLine_182 rfl ?_
    obtain ⟨v4, τ5, ev4, h⟩ := bd2_some h
    refine q_cVI [.int x4] dX13_readRollLine_184 cv_X13_394 (ci := 12) rfl rfl t0 rfl rfl (Nat.le_of_ble_eq_true rfl) (by omega) (kX13_readGlassDoes (d - 1) (by omega) x0 x4 t0 (v4, τ5) ev4) ?_
    refine r_if_eq 213 dX13_readRollLine_187 (by decide) h (fun _ h => ?_) (fun _ h => ?_)
    · refine r_pick [] rfl ?_
      exact tX13_readRollLine_b213 hdd τ5  _ h hQ
    · refine r_goto 202 dX13_readRollLine_190 (by decide) ?_
      refine r_pick [0] rfl ?_
      exact tX13_readRollLine_b202 hdd τ5 x0 t0 _ h hQ
theorem tX13_readRollLine_b152 {l : Launch} {G : gg} {Γ : ly} {d : Nat} {Q : Option Value → ly → mm → Prop} (hdd : 5 ≤ d) (σ : mm)  (s0 : Int32)   (r : (Int32 × mm)) (h : fX13_readRollLine_b152 Γ.2 σ s0 = some r) (hQ : Q (some (.int r.1)) Γ r.2) : WP l G yX13_readRollLine cX13_readRollLine 5 (some .boolean) d 0 0 Q 0 0 152 [] [.int s0] Γ σ := by
  unfold fX13_readRollLine_b152 at h
  obtain ⟨hbz, h⟩ := rZ_some h
  obtain rfl := Option.some.inj h
  exact r_zreturn dX13_readRollLine_152 rfl hbz hQ (Nat.le_refl _) (Nat.le_refl _)
theorem tX13_readRollLine_b151 {l : Launch} {G : gg} {Γ : ly} {d : Nat} {Q : Option Value → ly → mm → Prop} (hdd : 5 ≤ d) (σ : mm)     (r : (Int32 × mm)) (h : fX13_readRollLine_b151 Γ.2 σ  = some r) (hQ : Q (some (.int r.1)) Γ r.2) : WP l G yX13_readRollLine cX13_readRollLine 5 (some .boolean) d 0 0 Q 0 0 151 [] [] Γ σ := by
  unfold fX13_readRollLine_b151 at h
  refine r_iconst (v := 0) dX13_readRollLine_151 (by decide) ?_
  exact tX13_readRollLine_b152 hdd σ (0 : Int32)  _ h hQ
theorem tX13_readRollLine_b99 {l : Launch} {G : gg} {Γ : ly} {d : Nat} {Q : Option Value → ly → mm → Prop} (hdd : 5 ≤ d) (σ : mm) (x0 : Nat) (x1 : Int32) (x2 : Int32) (x3 : Int32)  (t0 : tyOK Γ (0, 12) x0)  (r : (Int32 × mm)) (h : fX13_readRollLine_b99 Γ.2 σ x0 x1 x2 x3 = some r) (hQ : Q (some (.int r.1)) Γ r.2) : WP l G yX13_readRollLine cX13_readRollLine 5 (some .boolean) d 0 0 Q 0 0 99 [(0, .ref (G.2.1 x0)), (1, .int x1), (2, .int x2), (3, .int x3)] [] Γ σ := by
  unfold fX13_readRollLine_b99 at h
  refine r_aload_n 0 dX13_readRollLine_99 rfl ?_
  refine r_getI dX13_readRollLine_100 fd_X13_391 t0 ?_
  refine r_bipush (v := 40) dX13_readRollLine_103 (by decide) ?_
  refine r_icmp_ne 114 dX13_readRollLine_105 (by decide) h (fun _ h => ?_) (fun _ h => ?_)
  · refine r_iconst (v := 3) dX13_readRollLine_114 (by decide) ?_
    refine r_aload_n 0 dX13_readRollLine_115 rfl ?_
    refine r_getI dX13_readRollLine_116 fd_X13_391 t0 ?_
    refine r_imul dX13_readRollLine_119 ?_
    refine q_nmI h (fun v1 h => ?_)
    refine r_istore (lv' := [(4, .int v1), (0, .ref (G.2.1 x0)), (1, .int x1), (2, .int x2), (3, .int x3)]) dX13_readRollLine_120 (by decide) rfl ?_
    refine r_iload_n 2 dX13_readRollLine_122 rfl ?_
    refine r_if_eq 153 dX13_readRollLine_123 (by decide) h (fun _ h => ?_) (fun _ h => ?_)
    · refine r_aload_n 1 dX13_readRollLine_153 rfl ?_
      obtain ⟨τ2, eτ2, h⟩ := bd0_some h
      refine q_cVV [] dX13_readRollLine_154 cv_X13_82 (ci := 12) rfl rfl t0 rfl rfl (Nat.le_of_ble_eq_true rfl) (by omega) (kX13_go (d - 1) (by omega) x0 t0 τ2 eτ2) ?_
      refine r_aload_n 1 dX13_readRollLine_157 rfl ?_
      refine q_getR (e9 := (1, 0)) dX13_readRollLine_158 fd_X13_139 t0 rfl h (fun r3 tr3 h => ?_)
      refine r_iload 0 dX13_readRollLine_161 rfl ?_
      refine r_iconst (v := 1) dX13_readRollLine_163 (by decide) ?_
      refine r_iadd dX13_readRollLine_164 ?_
      refine r_iload_n 3 dX13_readRollLine_165 rfl ?_
      refine r_iconst (v := -1) dX13_readRollLine_166 (by decide) ?_
      refine r_icmp_ne 174 dX13_readRollLine_167 (by decide) h (fun _ h => ?_) (fun _ h => ?_)
      · refine r_iload_n 3 dX13_readRollLine_174 rfl ?_
        refine r_pick [1, 3, 0] rfl ?_
        exact tX13_readRollLine_b175 hdd τ2 x0 x2 v1 r3 (v1 + (1 : Int32)) x2 t0 tr3 _ h hQ
      · refine r_iload_n 4 dX13_readRollLine_170 rfl ?_
        refine r_goto 175 dX13_readRollLine_171 (by decide) ?_
        refine r_pick [1, 3, 0] rfl ?_
        exact tX13_readRollLine_b175 hdd τ2 x0 x2 v1 r3 (v1 + (1 : Int32)) x3 t0 tr3 _ h hQ
    · refine r_aload_n 1 dX13_readRollLine_126 rfl ?_
      refine r_iload 0 dX13_readRollLine_127 rfl ?_
      refine r_bipush (v := 6) dX13_readRollLine_129 (by decide) ?_
      refine r_iconst (v := 1) dX13_readRollLine_131 (by decide) ?_
      refine r_bipush (v := 60) dX13_readRollLine_132 (by decide) ?_
      obtain ⟨v4, τ5, ev4, h⟩ := bd2_some h
      refine q_cVI [.int v1, .int (6 : Int32), .int (1 : Int32), .int (60 : Int32)] dX13_readRollLine_134 cv_X13_387 (ci := 12) rfl rfl t0 rfl rfl (Nat.le_of_ble_eq_true rfl) (by omega) (kX13_readCount (d - 1) (by omega) x0 v1 (6 : Int32) (1 : Int32) (60 : Int32) t0 (v4, τ5) ev4) ?_
      refine r_if_eq 151 dX13_readRollLine_137 (by decide) h (fun _ h => ?_) (fun _ h => ?_)
      · refine r_pick [] rfl ?_
        exact tX13_readRollLine_b151 hdd τ5  _ h hQ
      · refine r_aload_n 1 dX13_readRollLine_140 rfl ?_
        obtain ⟨v6, τ7, ev6, h⟩ := bd2_some h
        refine q_cVI [] dX13_readRollLine_141 cv_X13_218 (ci := 12) rfl rfl t0 rfl rfl (Nat.le_of_ble_eq_true rfl) (by omega) (kX13_readEnd (d - 1) (by omega) x0 t0 (v6, τ7) ev6) ?_
        refine r_if_eq 151 dX13_readRollLine_144 (by decide) h (fun _ h => ?_) (fun _ h => ?_)
        · refine r_pick [] rfl ?_
          exact tX13_readRollLine_b151 hdd τ7  _ h hQ
        · refine r_iconst (v := 1) dX13_readRollLine_147 (by decide) ?_
          refine r_goto 152 dX13_readRollLine_148 (by decide) ?_
          refine r_pick [] rfl ?_
          exact tX13_readRollLine_b152 hdd τ7 (1 : Int32)  _ h hQ
  · refine r_aload_n 0 dX13_readRollLine_108 rfl ?_
    refine r_iconst (v := 4) dX13_readRollLine_109 (by decide) ?_
    obtain ⟨v8, τ9, ev8, h⟩ := bd2_some h
    refine q_cVI [.int (4 : Int32)] dX13_readRollLine_110 cv_X13_72 (ci := 12) rfl rfl t0 rfl rfl (Nat.le_of_ble_eq_true rfl) (by omega) (kX13_bad (d - 1) (by omega) x0 (4 : Int32) t0 (v8, τ9) ev8) ?_
    obtain ⟨hbz, h⟩ := rZ_some h
    obtain rfl := Option.some.inj h
    exact r_zreturn dX13_readRollLine_113 rfl hbz hQ (Nat.le_refl _) (Nat.le_refl _)
theorem tX13_readRollLine_b78 {l : Launch} {G : gg} {Γ : ly} {d : Nat} {Q : Option Value → ly → mm → Prop} (hdd : 5 ≤ d) (σ : mm) (x0 : Nat) (x1 : Int32) (x2 : Int32) (s0 : Int32) (t0 : tyOK Γ (0, 12) x0)  (r : (Int32 × mm)) (h : fX13_readRollLine_b78 Γ.2 σ x0 x1 x2 s0 = some r) (hQ : Q (some (.int r.1)) Γ r.2) : WP l G yX13_readRollLine cX13_readRollLine 5 (some .boolean) d 0 0 Q 0 0 78 [(0, .ref (G.2.1 x0)), (1, .int x1), (2, .int x2)] [.int s0] Γ σ := by
  unfold fX13_readRollLine_b78 at h
  refine r_istore_n (lv' := [(3, .int s0), (0, .ref (G.2.1 x0)), (1, .int x1), (2, .int x2)]) dX13_readRollLine_78 (by decide) rfl ?_
  refine r_iload_n 2 dX13_readRollLine_79 rfl ?_
  refine r_if_ne 99 dX13_readRollLine_80 (by decide) h (fun _ h => ?_) (fun _ h => ?_)
  · refine r_pick [1, 2, 3, 0] rfl ?_
    exact tX13_readRollLine_b99 hdd σ x0 x1 x2 s0 t0 _ h hQ
  · refine r_iload_n 3 dX13_readRollLine_83 rfl ?_
    refine r_iconst (v := -1) dX13_readRollLine_84 (by decide) ?_
    refine r_icmp_ne 99 dX13_readRollLine_85 (by decide) h (fun _ h => ?_) (fun _ h => ?_)
    · refine r_pick [1, 2, 3, 0] rfl ?_
      exact tX13_readRollLine_b99 hdd σ x0 x1 x2 s0 t0 _ h hQ
    · refine r_iload_n 0 dX13_readRollLine_88 rfl ?_
      refine r_iconst (v := -1) dX13_readRollLine_89 (by decide) ?_
      refine r_icmp_ne 99 dX13_readRollLine_90 (by decide) h (fun _ h => ?_) (fun _ h => ?_)
      · refine r_pick [1, 2, 3, 0] rfl ?_
        exact tX13_readRollLine_b99 hdd σ x0 x1 x2 s0 t0 _ h hQ
      · refine r_aload_n 1 dX13_readRollLine_93 rfl ?_
        refine r_iconst (v := 3) dX13_readRollLine_94 (by decide) ?_
        obtain ⟨v1, τ2, ev1, h⟩ := bd2_some h
        refine q_cVI [.int (3 : Int32)] dX13_readRollLine_95 cv_X13_72 (ci := 12) rfl rfl t0 rfl rfl (Nat.le_of_ble_eq_true rfl) (by omega) (kX13_bad (d - 1) (by omega) x0 (3 : Int32) t0 (v1, τ2) ev1) ?_
        obtain ⟨hbz, h⟩ := rZ_some h
        obtain rfl := Option.some.inj h
        exact r_zreturn dX13_readRollLine_98 rfl hbz hQ (Nat.le_refl _) (Nat.le_refl _)
theorem tX13_readRollLine_b50 {l : Launch} {G : gg} {Γ : ly} {d : Nat} {Q : Option Value → ly → mm → Prop} (hdd : 5 ≤ d) (σ : mm) (x0 : Nat) (x1 : Int32) (s0 : Int32) (t0 : tyOK Γ (0, 12) x0)  (r : (Int32 × mm)) (h : fX13_readRollLine_b50 Γ.2 σ x0 x1 s0 = some r) (hQ : Q (some (.int r.1)) Γ r.2) : WP l G yX13_readRollLine cX13_readRollLine 5 (some .boolean) d 0 0 Q 0 0 50 [(0, .ref (G.2.1 x0)), (1, .int x1)] [.int s0] Γ σ := by
  unfold fX13_readRollLine_b50 at h
  refine r_istore_n (lv' := [(2, .int s0), (0, .ref (G.2.1 x0)), (1, .int x1)]) dX13_readRollLine_50 (by decide) rfl ?_
  refine r_iload_n 2 dX13_readRollLine_51 rfl ?_
  refine r_if_eq 59 dX13_readRollLine_52 (by decide) h (fun _ h => ?_) (fun _ h => ?_)
  · refine r_aload_n 1 dX13_readRollLine_59 rfl ?_
    refine q_getR (e9 := (4, 0)) dX13_readRollLine_60 fd_X13_113 t0 rfl h (fun r1 tr1 h => ?_)
    refine r_bipush (v := 8) dX13_readRollLine_63 (by decide) ?_
    refine r_aload_n 1 dX13_readRollLine_65 rfl ?_
    refine q_getR (e9 := (1, 0)) dX13_readRollLine_66 fd_X13_98 t0 rfl h (fun r2 tr2 h => ?_)
    refine r_iconst (v := 1) dX13_readRollLine_69 (by decide) ?_
    refine q_iald dX13_readRollLine_70 tr2 h (fun v3 h => ?_)
    refine r_aload_n 1 dX13_readRollLine_71 rfl ?_
    refine r_getL dX13_readRollLine_72 fd_X13_43 t0 ?_
    obtain ⟨v4, ev4, h⟩ := bd0_some h
    refine q_cSI [.ref (G.2.1 r1), .int (8 : Int32), .int v3, .long (σ.2.1 x0 12)] dX13_readRollLine_75 cs_X13_158 rfl rfl (Nat.le_of_ble_eq_true rfl) (by omega) (kX13_findIn (d - 1) (by omega) r1 (8 : Int32) v3 (σ.2.1 x0 12) tr1 v4 ev4) ?_
    refine r_pick [1, 2, 0] rfl ?_
    exact tX13_readRollLine_b78 hdd σ x0 x1 s0 v4 t0 _ h hQ
  · refine r_iconst (v := -1) dX13_readRollLine_55 (by decide) ?_
    refine r_goto 78 dX13_readRollLine_56 (by decide) ?_
    refine r_pick [1, 2, 0] rfl ?_
    exact tX13_readRollLine_b78 hdd σ x0 x1 s0 (-1 : Int32) t0 _ h hQ
theorem tX13_readRollLine_b24 {l : Launch} {G : gg} {Γ : ly} {d : Nat} {Q : Option Value → ly → mm → Prop} (hdd : 5 ≤ d) (σ : mm) (x0 : Nat) (x1 : Int32)  (t0 : tyOK Γ (0, 12) x0)  (r : (Int32 × mm)) (h : fX13_readRollLine_b24 Γ.2 σ x0 x1 = some r) (hQ : Q (some (.int r.1)) Γ r.2) : WP l G yX13_readRollLine cX13_readRollLine 5 (some .boolean) d 0 0 Q 0 0 24 [(0, .ref (G.2.1 x0)), (1, .int x1)] [] Γ σ := by
  unfold fX13_readRollLine_b24 at h
  refine r_iload_n 1 dX13_readRollLine_24 rfl ?_
  refine r_if_eq 32 dX13_readRollLine_25 (by decide) h (fun _ h => ?_) (fun _ h => ?_)
  · refine r_aload_n 0 dX13_readRollLine_32 rfl ?_
    refine q_getR (e9 := (4, 0)) dX13_readRollLine_33 fd_X13_113 t0 rfl h (fun r1 tr1 h => ?_)
    refine r_iconst (v := 0) dX13_readRollLine_36 (by decide) ?_
    refine r_aload_n 0 dX13_readRollLine_37 rfl ?_
    refine q_getR (e9 := (1, 0)) dX13_readRollLine_38 fd_X13_98 t0 rfl h (fun r2 tr2 h => ?_)
    refine r_iconst (v := 0) dX13_readRollLine_41 (by decide) ?_
    refine q_iald dX13_readRollLine_42 tr2 h (fun v3 h => ?_)
    refine r_aload_n 0 dX13_readRollLine_43 rfl ?_
    refine r_getL dX13_readRollLine_44 fd_X13_43 t0 ?_
    obtain ⟨v4, ev4, h⟩ := bd0_some h
    refine q_cSI [.ref (G.2.1 r1), .int (0 : Int32), .int v3, .long (σ.2.1 x0 12)] dX13_readRollLine_47 cs_X13_158 rfl rfl (Nat.le_of_ble_eq_true rfl) (by omega) (kX13_findIn (d - 1) (by omega) r1 (0 : Int32) v3 (σ.2.1 x0 12) tr1 v4 ev4) ?_
    exact tX13_readRollLine_b50 hdd σ x0 x1 v4 t0 _ h hQ
  · refine r_iconst (v := -1) dX13_readRollLine_28 (by decide) ?_
    refine r_goto 50 dX13_readRollLine_29 (by decide) ?_
    exact tX13_readRollLine_b50 hdd σ x0 x1 (-1 : Int32) t0 _ h hQ
theorem kX13_readRollLine {l : Launch} {G : gg} {Γ : ly} {σ : mm} (d : Nat) (hdd : 5 ≤ d) (x0 : Nat) (t0 : tyOK Γ (0, 12) x0) (r : (Int32 × mm)) (h : fX13_readRollLine Γ.2 σ x0 = some r) : CT l G yX13_readRollLine cX13_readRollLine 5 (some .boolean) d 0 0 [.ref (G.2.1 x0)] Γ σ (PP (some (.int r.1)) Γ r.2) := by
  refine CT.ofWP (by decide) (Nat.le_of_ble_eq_true rfl) ?_
  have hQ : PP (some (.int r.1)) Γ r.2 (some (.int r.1)) Γ r.2 := PP.self
  generalize PP (some (.int r.1)) Γ r.2 = Q at hQ ⊢
  show WP l G yX13_readRollLine cX13_readRollLine 5 (some .boolean) d 0 0 Q 0 0 0 [(0, .ref (G.2.1 x0))] [] Γ σ
  unfold fX13_readRollLine at h
  refine r_aload_n 0 dX13_readRollLine_0 rfl ?_
  refine r_bipush (v := 16) dX13_readRollLine_1 (by decide) ?_
  obtain ⟨v1, ev1, h⟩ := bd0_some h
  refine q_cVI [.int (16 : Int32)] dX13_readRollLine_3 cv_X13_191 (ci := 12) rfl rfl t0 rfl rfl (Nat.le_of_ble_eq_true rfl) (by omega) (kX13_isWord (d - 1) (by omega) x0 (16 : Int32) t0 v1 ev1) ?_
  refine r_istore_n (lv' := [(1, .int v1), (0, .ref (G.2.1 x0))]) dX13_readRollLine_6 (by decide) rfl ?_
  refine r_iload_n 0 dX13_readRollLine_7 rfl ?_
  refine r_if_ne 24 dX13_readRollLine_8 (by decide) h (fun _ h => ?_) (fun _ h => ?_)
  · refine r_pick [1, 0] rfl ?_
    exact tX13_readRollLine_b24 hdd σ x0 v1 t0 _ h hQ
  · refine r_aload_n 1 dX13_readRollLine_11 rfl ?_
    obtain ⟨v2, ev2, h⟩ := bd0_some h
    refine q_cVI [] dX13_readRollLine_12 cv_X13_154 (ci := 12) rfl rfl t0 rfl rfl (Nat.le_of_ble_eq_true rfl) (by omega) (kX13_isName (d - 1) (by omega) x0 t0 v2 ev2) ?_
    refine r_if_ne 24 dX13_readRollLine_15 (by decide) h (fun _ h => ?_) (fun _ h => ?_)
    · refine r_pick [1, 0] rfl ?_
      exact tX13_readRollLine_b24 hdd σ x0 v1 t0 _ h hQ
    · refine r_aload_n 1 dX13_readRollLine_18 rfl ?_
      refine r_iconst (v := 1) dX13_readRollLine_19 (by decide) ?_
      obtain ⟨v3, τ4, ev3, h⟩ := bd2_some h
      refine q_cVI [.int (1 : Int32)] dX13_readRollLine_20 cv_X13_72 (ci := 12) rfl rfl t0 rfl rfl (Nat.le_of_ble_eq_true rfl) (by omega) (kX13_bad (d - 1) (by omega) x0 (1 : Int32) t0 (v3, τ4) ev3) ?_
      obtain ⟨hbz, h⟩ := rZ_some h
      obtain rfl := Option.some.inj h
      exact r_zreturn dX13_readRollLine_23 rfl hbz hQ (Nat.le_refl _) (Nat.le_refl _)
theorem kX13_goBy {l : Launch} {G : gg} {Γ : ly} {σ : mm} (d : Nat) (hdd : 7 ≤ d) (x0 : Nat) (x1 : Int32) (t0 : tyOK Γ (0, 12) x0) (r : (Int32 × mm)) (h : fX13_goBy Γ.2 σ x0 x1 = some r) : CT l G yX13_goBy cX13_goBy 5 (some .int) d 0 0 [.ref (G.2.1 x0), .int x1] Γ σ (PP (some (.int r.1)) Γ r.2) := by
  refine CT.ofWP (by decide) (Nat.le_of_ble_eq_true rfl) ?_
  have hQ : PP (some (.int r.1)) Γ r.2 (some (.int r.1)) Γ r.2 := PP.self
  generalize PP (some (.int r.1)) Γ r.2 = Q at hQ ⊢
  show WP l G yX13_goBy cX13_goBy 5 (some .int) d 0 0 Q 0 0 0 [(0, .ref (G.2.1 x0)), (1, .int x1)] [] Γ σ
  unfold fX13_goBy at h
  refine r_aload_n 0 dX13_goBy_0 rfl ?_
  refine q_getR (e9 := (1, 0)) dX13_goBy_1 fd_X13_139 t0 rfl h (fun r1 tr1 h => ?_)
  refine r_iload_n 1 dX13_goBy_4 rfl ?_
  refine q_iald dX13_goBy_5 tr1 h (fun v2 h => ?_)
  refine r_istore_n (lv' := [(2, .int v2), (0, .ref (G.2.1 x0)), (1, .int x1)]) dX13_goBy_6 (by decide) rfl ?_
  refine r_aload_n 1 dX13_goBy_7 rfl ?_
  refine q_getR (e9 := (1, 0)) dX13_goBy_8 fd_X13_139 t0 rfl h (fun r3 tr3 h => ?_)
  refine r_iload_n 2 dX13_goBy_11 rfl ?_
  refine r_iconst (v := 2) dX13_goBy_12 (by decide) ?_
  refine r_iadd dX13_goBy_13 ?_
  refine q_iald dX13_goBy_14 tr3 h (fun v4 h => ?_)
  refine r_istore_n (lv' := [(3, .int v4), (2, .int v2), (0, .ref (G.2.1 x0)), (1, .int x1)]) dX13_goBy_15 (by decide) rfl ?_
  refine r_iload_n 1 dX13_goBy_16 rfl ?_
  refine r_bipush (v := 6) dX13_goBy_17 (by decide) ?_
  refine r_icmp_ne 48 dX13_goBy_19 (by decide) h (fun _ h => ?_) (fun _ h => ?_)
  · refine r_aload_n 2 dX13_goBy_48 rfl ?_
    refine r_iload_n 1 dX13_goBy_49 rfl ?_
    refine r_aload_n 2 dX13_goBy_50 rfl ?_
    refine q_getR (e9 := (1, 0)) dX13_goBy_51 fd_X13_139 t0 rfl h (fun r5 tr5 h => ?_)
    refine r_iload_n 3 dX13_goBy_54 rfl ?_
    refine r_iconst (v := 1) dX13_goBy_55 (by decide) ?_
    refine r_iadd dX13_goBy_56 ?_
    refine q_iald dX13_goBy_57 tr5 h (fun v6 h => ?_)
    refine r_iload_n 0 dX13_goBy_58 rfl ?_
    obtain ⟨v7, ev7, h⟩ := bd0_some h
    refine q_cVI [.int v2, .int v6, .int v4] dX13_goBy_59 cv_X13_289 (ci := 12) rfl rfl t0 rfl rfl (Nat.le_of_ble_eq_true rfl) (by omega) (kX13_why (d - 1) (by omega) x0 v2 v6 v4 t0 v7 ev7) ?_
    refine r_istore (lv' := [(4, .int v7), (3, .int v4), (2, .int v2), (0, .ref (G.2.1 x0)), (1, .int x1)]) dX13_goBy_62 (by decide) rfl ?_
    refine r_iload 0 dX13_goBy_64 rfl ?_
    refine r_if_eq 77 dX13_goBy_66 (by decide) h (fun _ h => ?_) (fun _ h => ?_)
    · refine r_aload_n 3 dX13_goBy_77 rfl ?_
      refine r_iload_n 2 dX13_goBy_78 rfl ?_
      refine r_aload_n 3 dX13_goBy_79 rfl ?_
      refine q_getR (e9 := (1, 0)) dX13_goBy_80 fd_X13_139 t0 rfl h (fun r8 tr8 h => ?_)
      refine r_iload_n 4 dX13_goBy_83 rfl ?_
      refine r_iconst (v := 1) dX13_goBy_84 (by decide) ?_
      refine r_iadd dX13_goBy_85 ?_
      refine q_iald dX13_goBy_86 tr8 h (fun v9 h => ?_)
      refine r_iload_n 1 dX13_goBy_87 rfl ?_
      obtain ⟨τ10, eτ10, h⟩ := bd0_some h
      refine q_cVV [.int v2, .int v9, .int v4] dX13_goBy_88 cv_X13_296 (ci := 12) rfl rfl t0 rfl rfl (Nat.le_of_ble_eq_true rfl) (by omega) (kX13_live (d - 1) (by omega) x0 v2 v9 v4 t0 τ10 eτ10) ?_
      refine r_iconst (v := 0) dX13_goBy_91 (by decide) ?_
      obtain rfl := Option.some.inj h
      exact r_ireturn dX13_goBy_92 rfl hQ (Nat.le_refl _) (Nat.le_refl _)
    · refine r_bipush (v := 10) dX13_goBy_69 (by decide) ?_
      refine r_iload_n 2 dX13_goBy_71 rfl ?_
      refine r_imul dX13_goBy_72 ?_
      refine r_iload 0 dX13_goBy_73 rfl ?_
      refine r_iadd dX13_goBy_75 ?_
      obtain rfl := Option.some.inj h
      exact r_ireturn dX13_goBy_76 rfl hQ (Nat.le_refl _) (Nat.le_refl _)
  · refine r_aload_n 2 dX13_goBy_22 rfl ?_
    refine q_getR (e9 := (1, 0)) dX13_goBy_23 fd_X13_98 t0 rfl h (fun r11 tr11 h => ?_)
    refine r_bipush (v := 102) dX13_goBy_26 (by decide) ?_
    refine q_iald dX13_goBy_28 tr11 h (fun v12 h => ?_)
    refine r_iload_n 0 dX13_goBy_29 rfl ?_
    refine r_iadd dX13_goBy_30 ?_
    refine r_sipush (v := 600) dX13_goBy_31 (by decide) ?_
    refine r_icmp_le 40 dX13_goBy_34 (by decide) h (fun _ h => ?_) (fun _ h => ?_)
    · refine r_aload_n 2 dX13_goBy_40 rfl ?_
      refine r_iload_n 0 dX13_goBy_41 rfl ?_
      obtain ⟨v13, τ14, ev13, h⟩ := bd2_some h
      refine q_cVI [.int v4] dX13_goBy_42 cv_X13_309 (ci := 12) rfl rfl t0 rfl rfl (Nat.le_of_ble_eq_true rfl) (by omega) (kX13_passHours (d - 1) (by omega) x0 v4 t0 (v13, τ14) ev13) ?_
      refine r_pop dX13_goBy_45 rfl ?_
      refine r_iconst (v := 0) dX13_goBy_46 (by decide) ?_
      obtain rfl := Option.some.inj h
      exact r_ireturn dX13_goBy_47 rfl hQ (Nat.le_refl _) (Nat.le_refl _)
    · refine r_bipush (v := 61) dX13_goBy_37 (by decide) ?_
      obtain rfl := Option.some.inj h
      exact r_ireturn dX13_goBy_39 rfl hQ (Nat.le_refl _) (Nat.le_refl _)
theorem sX13_stay_L2 {l : Launch} {G : gg} {Γ : ly} {d : Nat} {Q : Option Value → ly → mm → Prop} (hdd : 1 ≤ d) (x0 : Nat) (x1 : Int32) (t0 : tyOK Γ (0, 12) x0) {K : mm → Prop} (kx0 : ∀ (σ9 : mm), K σ9 → WP l G yX13_stay cX13_stay 4 (none) d 0 0 Q 0 0 46 [(0, .ref (G.2.1 x0)), (1, .int x1)] [] Γ σ9) : ∀ (N : Nat) (s : (Int32 × mm)) (b : mm), loopN (fX13_stay_L2 Γ.2 x0 x1) N s = some b → K b → WP l G yX13_stay cX13_stay 4 (none) d 0 0 Q 0 0 2 [(0, .ref (G.2.1 x0)), (1, .int x1), (2, .int s.1)] [] Γ s.2 := by
  refine r_loop (f := fX13_stay_L2 Γ.2 x0 x1) (hlv := fun s => [(0, .ref (G.2.1 x0)), (1, .int x1), (2, .int s.1)]) (hsg := fun s => s.2) ?_
  rintro ⟨x2, σ⟩ r h hb hx
  have hb : ∀ (x2 : Int32) (σ : mm), r = .inl (x2, σ) → WP l G yX13_stay cX13_stay 4 (none) d 0 0 Q 0 0 2 [(0, .ref (G.2.1 x0)), (1, .int x1), (2, .int x2)] [] Γ σ := fun x2 σ e => hb (x2, σ) e
  have hx0 : ∀ (σ9 : mm), r = .inr σ9 → WP l G yX13_stay cX13_stay 4 (none) d 0 0 Q 0 0 46 [(0, .ref (G.2.1 x0)), (1, .int x1)] [] Γ σ9 := fun σ9 e => kx0 σ9 (hx _ e)
  unfold fX13_stay_L2 at h
  have h := un2_some h
  show WP l G yX13_stay cX13_stay 4 (none) d 0 0 Q 0 0 2 [(0, .ref (G.2.1 x0)), (1, .int x1), (2, .int x2)] [] Γ σ
  refine r_iload_n 2 dX13_stay_2 rfl ?_
  refine r_bipush (v := 39) dX13_stay_3 (by decide) ?_
  refine r_icmp_ge 46 dX13_stay_5 (by decide) h (fun _ h => ?_) (fun _ h => ?_)
  · obtain rfl := Option.some.inj h
    refine r_pick [0, 1] rfl ?_
    exact hx0 _ rfl
  · refine r_aload_n 0 dX13_stay_8 rfl ?_
    refine q_getR (e9 := (1, 0)) dX13_stay_9 fd_X13_98 t0 rfl h (fun r1 tr1 h => ?_)
    refine r_bipush (v := 102) dX13_stay_12 (by decide) ?_
    refine r_iload_n 2 dX13_stay_14 rfl ?_
    refine r_iadd dX13_stay_15 ?_
    refine q_iald dX13_stay_16 tr1 h (fun v2 h => ?_)
    refine r_istore_n (lv' := [(3, .int v2), (0, .ref (G.2.1 x0)), (1, .int x1), (2, .int x2)]) dX13_stay_17 (by decide) rfl ?_
    refine r_aload_n 1 dX13_stay_18 rfl ?_
    refine q_getR (e9 := (1, 0)) dX13_stay_19 fd_X13_98 t0 rfl h (fun r3 tr3 h => ?_)
    refine r_bipush (v := 102) dX13_stay_22 (by decide) ?_
    refine r_iload_n 3 dX13_stay_24 rfl ?_
    refine r_iadd dX13_stay_25 ?_
    refine r_aload_n 1 dX13_stay_26 rfl ?_
    refine q_getR (e9 := (1, 0)) dX13_stay_27 fd_X13_110 t0 rfl h (fun r4 tr4 h => ?_)
    refine r_iload_n 3 dX13_stay_30 rfl ?_
    refine q_iald dX13_stay_31 tr4 h (fun v5 h => ?_)
    refine q_iast dX13_stay_32 tr3 h (fun τ6 h => ?_)
    refine r_aload_n 1 dX13_stay_33 rfl ?_
    refine q_getR (e9 := (1, 0)) dX13_stay_34 fd_X13_110 t0 rfl h (fun r7 tr7 h => ?_)
    refine r_iload_n 3 dX13_stay_37 rfl ?_
    refine r_iload_n 0 dX13_stay_38 rfl ?_
    refine q_iast dX13_stay_39 tr7 h (fun τ8 h => ?_)
    refine q_iinc (v := 1) 3 (fun v9 => [(2, .int v9), (3, .int v2), (0, .ref (G.2.1 x0)), (1, .int x1)]) dX13_stay_40 rfl (by decide) (by decide) (fun _ => rfl) h (fun v9 h => ?_)
    refine r_goto 2 dX13_stay_43 (by decide) ?_
    obtain rfl := Option.some.inj h
    refine r_pick [2, 3, 0] rfl ?_
    exact hb _ _ rfl
theorem kX13_stay {l : Launch} {G : gg} {Γ : ly} {σ : mm} (d : Nat) (hdd : 1 ≤ d) (x0 : Nat) (x1 : Int32) (t0 : tyOK Γ (0, 12) x0) (r : mm) (h : fX13_stay Γ.2 σ x0 x1 = some r) : CT l G yX13_stay cX13_stay 4 (none) d 0 0 [.ref (G.2.1 x0), .int x1] Γ σ (PP none Γ r) := by
  refine CT.ofWP (by decide) (Nat.le_of_ble_eq_true rfl) ?_
  have hQ : PP none Γ r none Γ r := PP.self
  generalize PP none Γ r = Q at hQ ⊢
  show WP l G yX13_stay cX13_stay 4 (none) d 0 0 Q 0 0 0 [(0, .ref (G.2.1 x0)), (1, .int x1)] [] Γ σ
  unfold fX13_stay at h
  refine r_iconst (v := 0) dX13_stay_0 (by decide) ?_
  refine r_istore_n (lv' := [(2, .int (0 : Int32)), (0, .ref (G.2.1 x0)), (1, .int x1)]) dX13_stay_1 (by decide) rfl ?_
  obtain ⟨b1, eb1, h⟩ := bd0_some h
  refine r_pick [1, 2, 0] rfl ?_
  refine sX13_stay_L2 hdd x0 x1 t0 (K := fun b => b = b1) ?_ 1000 ((0 : Int32), σ) b1 eb1 rfl
  rintro τ2 rfl
  refine r_iload_n 1 dX13_stay_46 rfl ?_
  refine r_if_ne 51 dX13_stay_47 (by decide) h (fun _ h => ?_) (fun _ h => ?_)
  · refine r_aload_n 0 dX13_stay_51 rfl ?_
    obtain ⟨τ3, eτ3, h⟩ := bd0_some h
    refine q_cVV [] dX13_stay_52 cv_X13_293 (ci := 12) rfl rfl t0 rfl rfl (Nat.le_of_ble_eq_true rfl) (by omega) (kX13_snap (d - 1) (by omega) x0 t0 τ3 eτ3) ?_
    refine r_aload_n 0 dX13_stay_55 rfl ?_
    obtain ⟨τ4, eτ4, h⟩ := bd0_some h
    refine q_cVV [] dX13_stay_56 cv_X13_321 (ci := 12) rfl rfl t0 rfl rfl (Nat.le_of_ble_eq_true rfl) (by omega) (kX13_takeBack (d - 1) (by omega) x0 t0 τ4 eτ4) ?_
    obtain rfl := Option.some.inj h
    exact r_return dX13_stay_59 rfl hQ (Nat.le_refl _) (Nat.le_refl _)
  · obtain rfl := Option.some.inj h
    exact r_return dX13_stay_50 rfl hQ (Nat.le_refl _) (Nat.le_refl _)
theorem sX13_roll_L30 {l : Launch} {G : gg} {Γ : ly} {d : Nat} {Q : Option Value → ly → mm → Prop} (hdd : 8 ≤ d) (x0 : Nat) (x1 : Int32) (t0 : tyOK Γ (0, 12) x0) {K : (mm ⊕ mm) → Prop} (kx0 : ∀ (σ9 : mm), K (.inl σ9) → WP l G yX13_roll cX13_roll 4 (some .int) d 0 0 Q 0 0 44 [(0, .ref (G.2.1 x0))] [] Γ σ9) (kx1 : ∀ (σ9 : mm), K (.inr σ9) → WP l G yX13_roll cX13_roll 4 (some .int) d 0 0 Q 0 0 65 [(0, .ref (G.2.1 x0)), (1, .int x1)] [] Γ σ9) : ∀ (N : Nat) (s : mm) (b : (mm ⊕ mm)), loopN (fX13_roll_L30 Γ.2 x0 x1) N s = some b → K b → WP l G yX13_roll cX13_roll 4 (some .int) d 0 0 Q 0 0 30 [(0, .ref (G.2.1 x0)), (1, .int x1)] [] Γ s := by
  refine r_loop (f := fX13_roll_L30 Γ.2 x0 x1) (hlv := fun s => [(0, .ref (G.2.1 x0)), (1, .int x1)]) (hsg := fun s => s) ?_
  rintro σ r h hb hx
  have hx0 : ∀ (σ9 : mm), r = .inr (.inl σ9) → WP l G yX13_roll cX13_roll 4 (some .int) d 0 0 Q 0 0 44 [(0, .ref (G.2.1 x0))] [] Γ σ9 := fun σ9 e => kx0 σ9 (hx _ e)
  have hx1 : ∀ (σ9 : mm), r = .inr (.inr σ9) → WP l G yX13_roll cX13_roll 4 (some .int) d 0 0 Q 0 0 65 [(0, .ref (G.2.1 x0)), (1, .int x1)] [] Γ σ9 := fun σ9 e => kx1 σ9 (hx _ e)
  unfold fX13_roll_L30 at h
  show WP l G yX13_roll cX13_roll 4 (some .int) d 0 0 Q 0 0 30 [(0, .ref (G.2.1 x0)), (1, .int x1)] [] Γ σ
  refine r_aload_n 0 dX13_roll_30 rfl ?_
  refine r_getI dX13_roll_31 fd_X13_30 t0 ?_
  refine r_if_eq 65 dX13_roll_34 (by decide) h (fun _ h => ?_) (fun _ h => ?_)
  · obtain rfl := Option.some.inj h
    exact hx1 _ rfl
  · refine r_aload_n 0 dX13_roll_37 rfl ?_
    obtain ⟨v1, τ2, ev1, h⟩ := bd2_some h
    refine q_cVI [] dX13_roll_38 cv_X13_400 (ci := 12) rfl rfl t0 rfl rfl (Nat.le_of_ble_eq_true rfl) (by omega) (kX13_readRollLine (d - 1) (by omega) x0 t0 (v1, τ2) ev1) ?_
    refine r_if_ne 52 dX13_roll_41 (by decide) h (fun _ h => ?_) (fun _ h => ?_)
    · refine r_aload_n 0 dX13_roll_52 rfl ?_
      refine r_dup dX13_roll_53 rfl ?_
      refine r_getI dX13_roll_54 fd_X13_391 t0 ?_
      refine r_iconst (v := 1) dX13_roll_57 (by decide) ?_
      refine r_iadd dX13_roll_58 ?_
      refine q_putI dX13_roll_59 fd_X13_391 t0 h (fun τ3 h => ?_)
      refine r_goto 30 dX13_roll_62 (by decide) ?_
      obtain rfl := Option.some.inj h
      exact hb _ rfl
    · obtain rfl := Option.some.inj h
      refine r_pick [0] rfl ?_
      exact hx0 _ rfl
theorem sX13_roll_L73 {l : Launch} {G : gg} {Γ : ly} {d : Nat} {Q : Option Value → ly → mm → Prop} (hdd : 8 ≤ d) (x0 : Nat) (x1 : Int32) (t0 : tyOK Γ (0, 12) x0) {K : (Int32 × Int32 × mm) → Prop} (kx0 : ∀ (x2 : Int32) (x3 : Int32) (σ9 : mm), K (x2, x3, σ9) → WP l G yX13_roll cX13_roll 4 (some .int) d 0 0 Q 0 0 103 [(0, .ref (G.2.1 x0)), (1, .int x1), (2, .int x2), (3, .int x3)] [] Γ σ9) : ∀ (N : Nat) (s : (Int32 × Int32 × mm)) (b : (Int32 × Int32 × mm)), loopN (fX13_roll_L73 Γ.2 x0 x1) N s = some b → K b → WP l G yX13_roll cX13_roll 4 (some .int) d 0 0 Q 0 0 73 [(0, .ref (G.2.1 x0)), (1, .int x1), (2, .int s.1), (3, .int s.2.1)] [] Γ s.2.2 := by
  refine r_loop (f := fX13_roll_L73 Γ.2 x0 x1) (hlv := fun s => [(0, .ref (G.2.1 x0)), (1, .int x1), (2, .int s.1), (3, .int s.2.1)]) (hsg := fun s => s.2.2) ?_
  rintro ⟨x2, x3, σ⟩ r h hb hx
  have hb : ∀ (x2 : Int32) (x3 : Int32) (σ : mm), r = .inl (x2, x3, σ) → WP l G yX13_roll cX13_roll 4 (some .int) d 0 0 Q 0 0 73 [(0, .ref (G.2.1 x0)), (1, .int x1), (2, .int x2), (3, .int x3)] [] Γ σ := fun x2 x3 σ e => hb (x2, x3, σ) e
  have hx0 : ∀ (x2 : Int32) (x3 : Int32) (σ9 : mm), r = .inr (x2, x3, σ9) → WP l G yX13_roll cX13_roll 4 (some .int) d 0 0 Q 0 0 103 [(0, .ref (G.2.1 x0)), (1, .int x1), (2, .int x2), (3, .int x3)] [] Γ σ9 := fun x2 x3 σ9 e => kx0 x2 x3 σ9 (hx _ e)
  unfold fX13_roll_L73 at h
  have h := un3_some h
  show WP l G yX13_roll cX13_roll 4 (some .int) d 0 0 Q 0 0 73 [(0, .ref (G.2.1 x0)), (1, .int x1), (2, .int x2), (3, .int x3)] [] Γ σ
  refine r_iload_n 2 dX13_roll_73 rfl ?_
  refine r_aload_n 0 dX13_roll_74 rfl ?_
  refine r_getI dX13_roll_75 fd_X13_391 t0 ?_
  refine r_icmp_ge 103 dX13_roll_78 (by decide) h (fun _ h => ?_) (fun _ h => ?_)
  · obtain rfl := Option.some.inj h
    exact hx0 _ _ _ rfl
  · refine r_iload_n 3 dX13_roll_81 rfl ?_
    refine r_if_ne 103 dX13_roll_82 (by decide) h (fun _ h => ?_) (fun _ h => ?_)
    · obtain rfl := Option.some.inj h
      exact hx0 _ _ _ rfl
    · refine r_aload_n 0 dX13_roll_85 rfl ?_
      refine r_iconst (v := 3) dX13_roll_86 (by decide) ?_
      refine r_iload_n 2 dX13_roll_87 rfl ?_
      refine r_imul dX13_roll_88 ?_
      obtain ⟨v1, τ2, ev1, h⟩ := bd2_some h
      refine q_cVI [.int ((3 : Int32) * x2)] dX13_roll_89 cv_X13_403 (ci := 12) rfl rfl t0 rfl rfl (Nat.le_of_ble_eq_true rfl) (by omega) (kX13_goBy (d - 1) (by omega) x0 ((3 : Int32) * x2) t0 (v1, τ2) ev1) ?_
      refine r_istore_n (lv' := [(3, .int v1), (0, .ref (G.2.1 x0)), (1, .int x1), (2, .int x2)]) dX13_roll_92 (by decide) rfl ?_
      refine r_iload_n 0 dX13_roll_93 rfl ?_
      refine r_if_ne 73 dX13_roll_94 (by decide) h (fun _ h => ?_) (fun _ h => ?_)
      · obtain rfl := Option.some.inj h
        refine r_pick [1, 2, 3, 0] rfl ?_
        exact hb _ _ _ rfl
      · refine q_iinc (v := 1) 3 (fun v3 => [(2, .int v3), (3, .int v1), (0, .ref (G.2.1 x0)), (1, .int x1)]) dX13_roll_97 rfl (by decide) (by decide) (fun _ => rfl) h (fun v3 h => ?_)
        refine r_goto 73 dX13_roll_100 (by decide) ?_
        obtain rfl := Option.some.inj h
        refine r_pick [2, 3, 0, 1] rfl ?_
        exact hb _ _ _ rfl
theorem tX13_roll_b175 {l : Launch} {G : gg} {Γ : ly} {d : Nat} {Q : Option Value → ly → mm → Prop} (hdd : 8 ≤ d) (σ : mm)  (s0 : Int32)   (r : (Int32 × mm)) (h : fX13_roll_b175 Γ.2 σ s0 = some r) (hQ : Q (some (.int r.1)) Γ r.2) : WP l G yX13_roll cX13_roll 4 (some .int) d 0 0 Q 0 0 175 [] [.int s0] Γ σ := by
  unfold fX13_roll_b175 at h
  obtain rfl := Option.some.inj h
  exact r_ireturn dX13_roll_175 rfl hQ (Nat.le_refl _) (Nat.le_refl _)
theorem tX13_roll_b163 {l : Launch} {G : gg} {Γ : ly} {d : Nat} {Q : Option Value → ly → mm → Prop} (hdd : 8 ≤ d) (σ : mm) (x2 : Int32) (x3 : Int32) (s0 : Nat) (s1 : Int32)  (u0 : tyOK Γ (0, 12) s0) (r : (Int32 × mm)) (h : fX13_roll_b163 Γ.2 σ x2 x3 s0 s1 = some r) (hQ : Q (some (.int r.1)) Γ r.2) : WP l G yX13_roll cX13_roll 4 (some .int) d 0 0 Q 0 0 163 [(2, .int x2), (3, .int x3)] [.int s1, .ref (G.2.1 s0)] Γ σ := by
  unfold fX13_roll_b163 at h
  obtain ⟨τ1, eτ1, h⟩ := bd0_some h
  refine q_cVV [.int s1] dX13_roll_163 cv_X13_410 (ci := 12) rfl rfl u0 rfl rfl (Nat.le_of_ble_eq_true rfl) (by omega) (kX13_stay (d - 1) (by omega) s0 s1 u0 τ1 eτ1) ?_
  refine r_iload_n 1 dX13_roll_166 rfl ?_
  refine r_if_ne 174 dX13_roll_167 (by decide) h (fun _ h => ?_) (fun _ h => ?_)
  · refine r_iload_n 0 dX13_roll_174 rfl ?_
    refine r_pick [] rfl ?_
    exact tX13_roll_b175 hdd τ1 x2  _ h hQ
  · refine r_iconst (v := -1) dX13_roll_170 (by decide) ?_
    refine r_goto 175 dX13_roll_171 (by decide) ?_
    refine r_pick [] rfl ?_
    exact tX13_roll_b175 hdd τ1 (-1 : Int32)  _ h hQ
theorem tX13_roll_b162 {l : Launch} {G : gg} {Γ : ly} {d : Nat} {Q : Option Value → ly → mm → Prop} (hdd : 8 ≤ d) (σ : mm) (x2 : Int32) (x3 : Int32) (s0 : Nat)  (u0 : tyOK Γ (0, 12) s0) (r : (Int32 × mm)) (h : fX13_roll_b162 Γ.2 σ x2 x3 s0 = some r) (hQ : Q (some (.int r.1)) Γ r.2) : WP l G yX13_roll cX13_roll 4 (some .int) d 0 0 Q 0 0 162 [(2, .int x2), (3, .int x3)] [.ref (G.2.1 s0)] Γ σ := by
  unfold fX13_roll_b162 at h
  refine r_iconst (v := 0) dX13_roll_162 (by decide) ?_
  exact tX13_roll_b163 hdd σ x2 x3 s0 (0 : Int32) u0 _ h hQ
theorem tX13_roll_b103 {l : Launch} {G : gg} {Γ : ly} {d : Nat} {Q : Option Value → ly → mm → Prop} (hdd : 8 ≤ d) (σ : mm) (x0 : Nat) (x1 : Int32) (x2 : Int32) (x3 : Int32)  (t0 : tyOK Γ (0, 12) x0)  (r : (Int32 × mm)) (h : fX13_roll_b103 Γ.2 σ x0 x1 x2 x3 = some r) (hQ : Q (some (.int r.1)) Γ r.2) : WP l G yX13_roll cX13_roll 4 (some .int) d 0 0 Q 0 0 103 [(0, .ref (G.2.1 x0)), (1, .int x1), (2, .int x2), (3, .int x3)] [] Γ σ := by
  unfold fX13_roll_b103 at h
  refine r_aload_n 0 dX13_roll_103 rfl ?_
  refine q_getR (e9 := (1, 0)) dX13_roll_104 fd_X13_142 t0 rfl h (fun r1 tr1 h => ?_)
  refine r_iconst (v := 0) dX13_roll_107 (by decide) ?_
  refine r_iload_n 3 dX13_roll_108 rfl ?_
  refine q_iast dX13_roll_109 tr1 h (fun τ2 h => ?_)
  refine r_aload_n 0 dX13_roll_110 rfl ?_
  refine q_getR (e9 := (1, 0)) dX13_roll_111 fd_X13_142 t0 rfl h (fun r3 tr3 h => ?_)
  refine r_iconst (v := 1) dX13_roll_114 (by decide) ?_
  refine r_iload_n 2 dX13_roll_115 rfl ?_
  refine q_iast dX13_roll_116 tr3 h (fun τ4 h => ?_)
  refine r_aload_n 0 dX13_roll_117 rfl ?_
  refine q_getR (e9 := (1, 0)) dX13_roll_118 fd_X13_142 t0 rfl h (fun r5 tr5 h => ?_)
  refine r_iconst (v := 2) dX13_roll_121 (by decide) ?_
  refine r_aload_n 0 dX13_roll_122 rfl ?_
  refine q_getR (e9 := (1, 0)) dX13_roll_123 fd_X13_98 t0 rfl h (fun r6 tr6 h => ?_)
  refine r_bipush (v := 102) dX13_roll_126 (by decide) ?_
  refine q_iald dX13_roll_128 tr6 h (fun v7 h => ?_)
  refine q_iast dX13_roll_129 tr5 h (fun τ8 h => ?_)
  refine r_aload_n 0 dX13_roll_130 rfl ?_
  refine q_getR (e9 := (1, 0)) dX13_roll_131 fd_X13_142 t0 rfl h (fun r9 tr9 h => ?_)
  refine r_iconst (v := 3) dX13_roll_134 (by decide) ?_
  refine r_aload_n 0 dX13_roll_135 rfl ?_
  refine q_getR (e9 := (1, 0)) dX13_roll_136 fd_X13_98 t0 rfl h (fun r10 tr10 h => ?_)
  refine r_bipush (v := 104) dX13_roll_139 (by decide) ?_
  refine q_iald dX13_roll_141 tr10 h (fun v11 h => ?_)
  refine q_iast dX13_roll_142 tr9 h (fun τ12 h => ?_)
  refine r_aload_n 0 dX13_roll_143 rfl ?_
  refine r_iconst (v := 1) dX13_roll_144 (by decide) ?_
  refine q_putZ dX13_roll_145 fd_X13_406 t0 h (fun τ13 h => ?_)
  refine r_aload_n 0 dX13_roll_148 rfl ?_
  refine r_iload_n 1 dX13_roll_149 rfl ?_
  refine r_iconst (v := 1) dX13_roll_150 (by decide) ?_
  refine r_icmp_ne 162 dX13_roll_151 (by decide) h (fun _ h => ?_) (fun _ h => ?_)
  · refine r_pick [2, 3] rfl ?_
    exact tX13_roll_b162 hdd τ13 x2 x3 x0 t0 _ h hQ
  · refine r_iload_n 2 dX13_roll_154 rfl ?_
    refine r_if_le 162 dX13_roll_155 (by decide) h (fun _ h => ?_) (fun _ h => ?_)
    · refine r_pick [2, 3] rfl ?_
      exact tX13_roll_b162 hdd τ13 x2 x3 x0 t0 _ h hQ
    · refine r_iconst (v := 1) dX13_roll_158 (by decide) ?_
      refine r_goto 163 dX13_roll_159 (by decide) ?_
      refine r_pick [2, 3] rfl ?_
      exact tX13_roll_b163 hdd τ13 x2 x3 x0 (1 : Int32) t0 _ h hQ
theorem kX13_roll {l : Launch} {G : gg} {Γ : ly} {σ : mm} (d : Nat) (hdd : 8 ≤ d) (x0 : Nat) (x1 : Int32) (t0 : tyOK Γ (0, 12) x0) (r : (Int32 × mm)) (h : fX13_roll Γ.2 σ x0 x1 = some r) : CT l G yX13_roll cX13_roll 4 (some .int) d 0 0 [.ref (G.2.1 x0), .int x1] Γ σ (PP (some (.int r.1)) Γ r.2) := by
  refine CT.ofWP (by decide) (Nat.le_of_ble_eq_true rfl) ?_
  have hQ : PP (some (.int r.1)) Γ r.2 (some (.int r.1)) Γ r.2 := PP.self
  generalize PP (some (.int r.1)) Γ r.2 = Q at hQ ⊢
  show WP l G yX13_roll cX13_roll 4 (some .int) d 0 0 Q 0 0 0 [(0, .ref (G.2.1 x0)), (1, .int x1)] [] Γ σ
  unfold fX13_roll at h
  refine r_aload_n 0 dX13_roll_0 rfl ?_
  refine r_iconst (v := 0) dX13_roll_1 (by decide) ?_
  refine q_putI dX13_roll_2 fd_X13_1 t0 h (fun τ1 h => ?_)
  refine r_iload_n 1 dX13_roll_5 rfl ?_
  refine r_iconst (v := 0) dX13_roll_6 (by decide) ?_
  refine r_iconst (v := 1) dX13_roll_7 (by decide) ?_
  obtain ⟨v2, ev2, h⟩ := bd0_some h
  refine q_cSI [.int x1, .int (0 : Int32), .int (1 : Int32)] dX13_roll_8 cs_X13_75 rfl rfl (Nat.le_of_ble_eq_true rfl) (by omega) (kX13_isIn (d - 1) (by omega) x1 (0 : Int32) (1 : Int32)  v2 ev2) ?_
  refine r_if_ne 18 dX13_roll_11 (by decide) h (fun _ h => ?_) (fun _ h => ?_)
  · refine r_aload_n 0 dX13_roll_18 rfl ?_
    refine r_sipush (v := 400) dX13_roll_19 (by decide) ?_
    obtain ⟨τ3, eτ3, h⟩ := bd0_some h
    refine q_cVV [.int (400 : Int32)] dX13_roll_22 cv_X13_212 (ci := 12) rfl rfl t0 rfl rfl (Nat.le_of_ble_eq_true rfl) (by omega) (kX13_begin (d - 1) (by omega) x0 (400 : Int32) t0 τ3 eτ3) ?_
    refine r_aload_n 0 dX13_roll_25 rfl ?_
    refine r_iconst (v := 0) dX13_roll_26 (by decide) ?_
    refine q_putI dX13_roll_27 fd_X13_391 t0 h (fun τ4 h => ?_)
    obtain ⟨b5, eb5, h⟩ := bd0_some h
    refine sX13_roll_L30 hdd x0 x1 t0 (K := fun b => b = b5) ?_ ?_ 1000 τ4 b5 eb5 rfl
    · rintro τ6 rfl
      have h := cs2_0 h
      refine r_bipush (v := -2) dX13_roll_44 (by decide) ?_
      refine r_aload_n 0 dX13_roll_46 rfl ?_
      refine r_getI dX13_roll_47 fd_X13_69 t0 ?_
      refine r_isub dX13_roll_50 ?_
      obtain rfl := Option.some.inj h
      exact r_ireturn dX13_roll_51 rfl hQ (Nat.le_refl _) (Nat.le_refl _)
    · rintro τ7 rfl
      have h := cs2_1 h
      refine r_aload_n 0 dX13_roll_65 rfl ?_
      obtain ⟨τ8, eτ8, h⟩ := bd0_some h
      refine q_cVV [] dX13_roll_66 cv_X13_318 (ci := 12) rfl rfl t0 rfl rfl (Nat.le_of_ble_eq_true rfl) (by omega) (kX13_layAside (d - 1) (by omega) x0 t0 τ8 eτ8) ?_
      refine r_iconst (v := 0) dX13_roll_69 (by decide) ?_
      refine r_istore_n (lv' := [(2, .int (0 : Int32)), (0, .ref (G.2.1 x0)), (1, .int x1)]) dX13_roll_70 (by decide) rfl ?_
      refine r_iconst (v := 0) dX13_roll_71 (by decide) ?_
      refine r_istore_n (lv' := [(3, .int (0 : Int32)), (2, .int (0 : Int32)), (0, .ref (G.2.1 x0)), (1, .int x1)]) dX13_roll_72 (by decide) rfl ?_
      obtain ⟨b9, eb9, h⟩ := bd0_some h
      refine r_pick [2, 3, 1, 0] rfl ?_
      refine sX13_roll_L73 hdd x0 x1 t0 (K := fun b => b = b9) ?_ 1000 ((0 : Int32), (0 : Int32), τ8) b9 eb9 rfl
      rintro v10 v11 τ12 rfl
      have h := un3_some h
      exact tX13_roll_b103 hdd τ12 x0 x1 v10 v11 t0 _ h hQ
  · refine r_sipush (v := -1000) dX13_roll_14 (by decide) ?_
    obtain rfl := Option.some.inj h
    exact r_ireturn dX13_roll_17 rfl hQ (Nat.le_refl _) (Nat.le_refl _)
theorem tX13_rolled_b31 {l : Launch} {G : gg} {Γ : ly} {d : Nat} {Q : Option Value → ly → mm → Prop} (hdd : 1 ≤ d) (σ : mm)  (s0 : Int32)   (r : (Int32 × mm)) (h : fX13_rolled_b31 Γ.2 σ s0 = some r) (hQ : Q (some (.int r.1)) Γ r.2) : WP l G yX13_rolled cX13_rolled 2 (some .int) d 0 0 Q 0 0 31 [] [.int s0] Γ σ := by
  unfold fX13_rolled_b31 at h
  obtain rfl := Option.some.inj h
  exact r_ireturn dX13_rolled_31 rfl hQ (Nat.le_refl _) (Nat.le_refl _)
theorem tX13_rolled_b30 {l : Launch} {G : gg} {Γ : ly} {d : Nat} {Q : Option Value → ly → mm → Prop} (hdd : 1 ≤ d) (σ : mm)     (r : (Int32 × mm)) (h : fX13_rolled_b30 Γ.2 σ  = some r) (hQ : Q (some (.int r.1)) Γ r.2) : WP l G yX13_rolled cX13_rolled 2 (some .int) d 0 0 Q 0 0 30 [] [] Γ σ := by
  unfold fX13_rolled_b30 at h
  refine r_iconst (v := -1) dX13_rolled_30 (by decide) ?_
  exact tX13_rolled_b31 hdd σ (-1 : Int32)  _ h hQ
theorem kX13_rolled {l : Launch} {G : gg} {Γ : ly} {σ : mm} (d : Nat) (hdd : 1 ≤ d) (x0 : Nat) (x1 : Int32) (t0 : tyOK Γ (0, 12) x0) (r : (Int32 × mm)) (h : fX13_rolled Γ.2 σ x0 x1 = some r) : CT l G yX13_rolled cX13_rolled 2 (some .int) d 0 0 [.ref (G.2.1 x0), .int x1] Γ σ (PP (some (.int r.1)) Γ r.2) := by
  refine CT.ofWP (by decide) (Nat.le_of_ble_eq_true rfl) ?_
  have hQ : PP (some (.int r.1)) Γ r.2 (some (.int r.1)) Γ r.2 := PP.self
  generalize PP (some (.int r.1)) Γ r.2 = Q at hQ ⊢
  show WP l G yX13_rolled cX13_rolled 2 (some .int) d 0 0 Q 0 0 0 [(0, .ref (G.2.1 x0)), (1, .int x1)] [] Γ σ
  unfold fX13_rolled at h
  refine r_aload_n 0 dX13_rolled_0 rfl ?_
  refine r_iconst (v := 0) dX13_rolled_1 (by decide) ?_
  refine q_putI dX13_rolled_2 fd_X13_1 t0 h (fun τ1 h => ?_)
  refine r_aload_n 0 dX13_rolled_5 rfl ?_
  refine r_getI dX13_rolled_6 fd_X13_406 t0 ?_
  refine r_if_eq 30 dX13_rolled_9 (by decide) h (fun _ h => ?_) (fun _ h => ?_)
  · refine r_pick [] rfl ?_
    exact tX13_rolled_b30 hdd τ1  _ h hQ
  · refine r_iload_n 1 dX13_rolled_12 rfl ?_
    refine r_iconst (v := 0) dX13_rolled_13 (by decide) ?_
    refine r_iconst (v := 3) dX13_rolled_14 (by decide) ?_
    obtain ⟨v2, ev2, h⟩ := bd0_some h
    refine q_cSI [.int x1, .int (0 : Int32), .int (3 : Int32)] dX13_rolled_15 cs_X13_75 rfl rfl (Nat.le_of_ble_eq_true rfl) (by omega) (kX13_isIn (d - 1) (by omega) x1 (0 : Int32) (3 : Int32)  v2 ev2) ?_
    refine r_if_eq 30 dX13_rolled_18 (by decide) h (fun _ h => ?_) (fun _ h => ?_)
    · refine r_pick [] rfl ?_
      exact tX13_rolled_b30 hdd τ1  _ h hQ
    · refine r_aload_n 0 dX13_rolled_21 rfl ?_
      refine q_getR (e9 := (1, 0)) dX13_rolled_22 fd_X13_142 t0 rfl h (fun r3 tr3 h => ?_)
      refine r_iload_n 1 dX13_rolled_25 rfl ?_
      refine q_iald dX13_rolled_26 tr3 h (fun v4 h => ?_)
      refine r_goto 31 dX13_rolled_27 (by decide) ?_
      refine r_pick [] rfl ?_
      exact tX13_rolled_b31 hdd τ1 v4  _ h hQ
theorem kX13_saysOne {l : Launch} {G : gg} {Γ : ly} {σ : mm} (d : Nat) (hdd : 0 ≤ d) (x0 : Nat) (x1 : Int32) (x2 : Int32) (x3 : Int32) (x4 : Int32) (t0 : tyOK Γ (0, 12) x0) (r : (Int32 × mm)) (h : fX13_saysOne Γ.2 σ x0 x1 x2 x3 x4 = some r) : CT l G yX13_saysOne cX13_saysOne 6 (some .int) d 0 0 [.ref (G.2.1 x0), .int x1, .int x2, .int x3, .int x4] Γ σ (PP (some (.int r.1)) Γ r.2) := by
  refine CT.ofWP (by decide) (Nat.le_of_ble_eq_true rfl) ?_
  have hQ : PP (some (.int r.1)) Γ r.2 (some (.int r.1)) Γ r.2 := PP.self
  generalize PP (some (.int r.1)) Γ r.2 = Q at hQ ⊢
  show WP l G yX13_saysOne cX13_saysOne 6 (some .int) d 0 0 Q 0 0 0 [(0, .ref (G.2.1 x0)), (1, .int x1), (2, .int x2), (3, .int x3), (4, .int x4)] [] Γ σ
  unfold fX13_saysOne at h
  refine r_iconst (v := 4) dX13_saysOne_0 (by decide) ?_
  refine r_aload_n 0 dX13_saysOne_1 rfl ?_
  refine r_getI dX13_saysOne_2 fd_X13_414 t0 ?_
  refine r_imul dX13_saysOne_5 ?_
  refine q_nmI h (fun v1 h => ?_)
  refine r_istore (lv' := [(5, .int v1), (0, .ref (G.2.1 x0)), (1, .int x1), (2, .int x2), (3, .int x3), (4, .int x4)]) dX13_saysOne_6 (by decide) rfl ?_
  refine r_aload_n 1 dX13_saysOne_8 rfl ?_
  refine q_getR (e9 := (1, 0)) dX13_saysOne_9 fd_X13_145 t0 rfl h (fun r2 tr2 h => ?_)
  refine r_iload 0 dX13_saysOne_12 rfl ?_
  refine r_iload_n 2 dX13_saysOne_14 rfl ?_
  refine q_iast dX13_saysOne_15 tr2 h (fun τ3 h => ?_)
  refine r_aload_n 1 dX13_saysOne_16 rfl ?_
  refine q_getR (e9 := (1, 0)) dX13_saysOne_17 fd_X13_145 t0 rfl h (fun r4 tr4 h => ?_)
  refine r_iload 0 dX13_saysOne_20 rfl ?_
  refine r_iconst (v := 1) dX13_saysOne_22 (by decide) ?_
  refine r_iadd dX13_saysOne_23 ?_
  refine r_iload_n 3 dX13_saysOne_24 rfl ?_
  refine q_iast dX13_saysOne_25 tr4 h (fun τ5 h => ?_)
  refine r_aload_n 1 dX13_saysOne_26 rfl ?_
  refine q_getR (e9 := (1, 0)) dX13_saysOne_27 fd_X13_145 t0 rfl h (fun r6 tr6 h => ?_)
  refine r_iload 0 dX13_saysOne_30 rfl ?_
  refine r_iconst (v := 2) dX13_saysOne_32 (by decide) ?_
  refine r_iadd dX13_saysOne_33 ?_
  refine r_iload_n 4 dX13_saysOne_34 rfl ?_
  refine q_iast dX13_saysOne_35 tr6 h (fun τ7 h => ?_)
  refine r_aload_n 1 dX13_saysOne_36 rfl ?_
  refine q_getR (e9 := (1, 0)) dX13_saysOne_37 fd_X13_145 t0 rfl h (fun r8 tr8 h => ?_)
  refine r_iload 0 dX13_saysOne_40 rfl ?_
  refine r_iconst (v := 3) dX13_saysOne_42 (by decide) ?_
  refine r_iadd dX13_saysOne_43 ?_
  refine r_iload 5 dX13_saysOne_44 rfl ?_
  refine q_iast dX13_saysOne_46 tr8 h (fun τ9 h => ?_)
  refine r_aload_n 1 dX13_saysOne_47 rfl ?_
  refine r_dup dX13_saysOne_48 rfl ?_
  refine r_getI dX13_saysOne_49 fd_X13_414 t0 ?_
  refine r_iconst (v := 1) dX13_saysOne_52 (by decide) ?_
  refine r_iadd dX13_saysOne_53 ?_
  refine q_putI dX13_saysOne_54 fd_X13_414 t0 h (fun τ10 h => ?_)
  refine r_aload_n 1 dX13_saysOne_57 rfl ?_
  refine r_getI dX13_saysOne_58 fd_X13_414 t0 ?_
  refine r_iconst (v := 1) dX13_saysOne_61 (by decide) ?_
  refine r_isub dX13_saysOne_62 ?_
  obtain rfl := Option.some.inj h
  exact r_ireturn dX13_saysOne_63 rfl hQ (Nat.le_refl _) (Nat.le_refl _)
theorem kX13_readBracket {l : Launch} {G : gg} {Γ : ly} {σ : mm} (d : Nat) (hdd : 5 ≤ d) {F : Nat → mm → Nat → Option (Int32 × mm)} {e : Nat} (hde : e + 1 ≤ d) (hF0 : ∀ (d : Nat), e ≤ d → ∀ (σ : mm) (x0 : Nat), tyOK Γ (0, 12) x0 → ∀ r, F 0 σ x0 = some r → CT l G yX13_readAnd cX13_readAnd 2 (some .boolean) d 0 0 [.ref (G.2.1 x0)] Γ σ (PP (some (.int r.1)) Γ r.2)) (hF1 : ∀ (d : Nat), e ≤ d → ∀ (σ : mm) (x0 : Nat), tyOK Γ (0, 12) x0 → ∀ r, F 1 σ x0 = some r → CT l G yX13_readBracket cX13_readBracket 1 (some .boolean) d 0 0 [.ref (G.2.1 x0)] Γ σ (PP (some (.int r.1)) Γ r.2)) (hF2 : ∀ (d : Nat), e ≤ d → ∀ (σ : mm) (x0 : Nat), tyOK Γ (0, 12) x0 → ∀ r, F 2 σ x0 = some r → CT l G yX13_readNot cX13_readNot 1 (some .boolean) d 0 0 [.ref (G.2.1 x0)] Γ σ (PP (some (.int r.1)) Γ r.2)) (hF3 : ∀ (d : Nat), e ≤ d → ∀ (σ : mm) (x0 : Nat), tyOK Γ (0, 12) x0 → ∀ r, F 3 σ x0 = some r → CT l G yX13_readOr cX13_readOr 2 (some .boolean) d 0 0 [.ref (G.2.1 x0)] Γ σ (PP (some (.int r.1)) Γ r.2)) (hF4 : ∀ (d : Nat), e ≤ d → ∀ (σ : mm) (x0 : Nat), tyOK Γ (0, 12) x0 → ∀ r, F 4 σ x0 = some r → CT l G yX13_readSaid cX13_readSaid 4 (some .boolean) d 0 0 [.ref (G.2.1 x0)] Γ σ (PP (some (.int r.1)) Γ r.2)) (x0 : Nat) (t0 : tyOK Γ (0, 12) x0) (r : (Int32 × mm)) (h : fX13_readBracket F Γ.2 σ x0 = some r) : CT l G yX13_readBracket cX13_readBracket 1 (some .boolean) d 0 0 [.ref (G.2.1 x0)] Γ σ (PP (some (.int r.1)) Γ r.2) := by
  refine CT.ofWP (by decide) (Nat.le_of_ble_eq_true rfl) ?_
  have hQ : PP (some (.int r.1)) Γ r.2 (some (.int r.1)) Γ r.2 := PP.self
  generalize PP (some (.int r.1)) Γ r.2 = Q at hQ ⊢
  show WP l G yX13_readBracket cX13_readBracket 1 (some .boolean) d 0 0 Q 0 0 0 [(0, .ref (G.2.1 x0))] [] Γ σ
  unfold fX13_readBracket at h
  refine r_aload_n 0 dX13_readBracket_0 rfl ?_
  obtain ⟨v1, τ2, ev1, h⟩ := bd2_some h
  refine q_cVI [] dX13_readBracket_1 cv_X13_448 (ci := 12) rfl rfl t0 rfl rfl (Nat.le_of_ble_eq_true rfl) (by omega) (hF3 (d - 1) (by omega) σ x0 t0 (v1, τ2) ev1) ?_
  refine r_if_ne 9 dX13_readBracket_4 (by decide) h (fun _ h => ?_) (fun _ h => ?_)
  · refine r_aload_n 0 dX13_readBracket_9 rfl ?_
    refine r_bipush (v := 41) dX13_readBracket_10 (by decide) ?_
    obtain ⟨v3, ev3, h⟩ := bd0_some h
    refine q_cVI [.int (41 : Int32)] dX13_readBracket_12 cv_X13_86 (ci := 12) rfl rfl t0 rfl rfl (Nat.le_of_ble_eq_true rfl) (by omega) (kX13_isSign (d - 1) (by omega) x0 (41 : Int32) t0 v3 ev3) ?_
    refine r_if_ne 24 dX13_readBracket_15 (by decide) h (fun _ h => ?_) (fun _ h => ?_)
    · refine r_aload_n 0 dX13_readBracket_24 rfl ?_
      obtain ⟨τ4, eτ4, h⟩ := bd0_some h
      refine q_cVV [] dX13_readBracket_25 cv_X13_82 (ci := 12) rfl rfl t0 rfl rfl (Nat.le_of_ble_eq_true rfl) (by omega) (kX13_go (d - 1) (by omega) x0 t0 τ4 eτ4) ?_
      refine r_iconst (v := 1) dX13_readBracket_28 (by decide) ?_
      obtain rfl := Option.some.inj h
      exact r_zreturn dX13_readBracket_29 rfl (by decide) hQ (Nat.le_refl _) (Nat.le_refl _)
    · refine r_aload_n 0 dX13_readBracket_18 rfl ?_
      refine r_iconst (v := 1) dX13_readBracket_19 (by decide) ?_
      obtain ⟨v5, τ6, ev5, h⟩ := bd2_some h
      refine q_cVI [.int (1 : Int32)] dX13_readBracket_20 cv_X13_72 (ci := 12) rfl rfl t0 rfl rfl (Nat.le_of_ble_eq_true rfl) (by omega) (kX13_bad (d - 1) (by omega) x0 (1 : Int32) t0 (v5, τ6) ev5) ?_
      obtain ⟨hbz, h⟩ := rZ_some h
      obtain rfl := Option.some.inj h
      exact r_zreturn dX13_readBracket_23 rfl hbz hQ (Nat.le_refl _) (Nat.le_refl _)
  · refine r_iconst (v := 0) dX13_readBracket_7 (by decide) ?_
    obtain rfl := Option.some.inj h
    exact r_zreturn dX13_readBracket_8 rfl (by decide) hQ (Nat.le_refl _) (Nat.le_refl _)
