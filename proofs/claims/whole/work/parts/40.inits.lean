/-! the constructors -/
def fX13_init_L149 (S : Nat → Nat × Nat) (x0 : Nat) : (Int32 × mm) → Option ((Int32 × mm) ⊕ mm) :=
  un2 fun x1 σ =>
  if (102 : Int32) ≤ x1 then
      some (.inr σ)
    else
      gR σ x0 14 fun r1 =>
      gR σ x0 15 fun r2 =>
      ldI S σ r2 x1 fun v3 =>
      stI S σ r1 x1 v3 fun τ4 =>
      nm (x1 + (1 : Int32)) fun v5 =>
      some (.inl (v5, τ4))
def fX13_init (Γ : ly) (σ : mm) (x0 : Nat) : Option (ly × mm) :=
  nwC Γ σ (1, 940) fun γ1 τ2 =>
  wR τ2 x0 1 Γ.1 fun τ6 =>
  nwC γ1 τ6 (1, 383) fun γ7 τ8 =>
  wR τ8 x0 14 γ1.1 fun τ12 =>
  nwC γ7 τ12 (1, 102) fun γ13 τ14 =>
  wR τ14 x0 15 γ7.1 fun τ18 =>
  nwC γ13 τ18 (1, 766) fun γ19 τ20 =>
  wR τ20 x0 16 γ13.1 fun τ24 =>
  nwC γ19 τ24 (1, 312) fun γ25 τ26 =>
  wR τ26 x0 17 γ19.1 fun τ30 =>
  nwC γ25 τ30 (1, 39) fun γ31 τ32 =>
  wR τ32 x0 18 γ25.1 fun τ36 =>
  nwC γ31 τ36 (4, 18) fun γ37 τ38 =>
  wR τ38 x0 19 γ31.1 fun τ42 =>
  nwC γ37 τ42 (4, 18) fun γ43 τ44 =>
  wR τ44 x0 20 γ37.1 fun τ48 =>
  nwC γ43 τ48 (4, 36) fun γ49 τ50 =>
  wR τ50 x0 21 γ43.1 fun τ54 =>
  nwC γ49 τ54 (3, 2) fun γ55 τ56 =>
  wR τ56 x0 22 γ49.1 fun τ60 =>
  nwC γ55 τ60 (1, 4) fun γ61 τ62 =>
  wR τ62 x0 25 γ55.1 fun τ66 =>
  nwC γ61 τ66 (1, 15921) fun γ67 τ68 =>
  wR τ68 x0 26 γ61.1 fun τ72 =>
  nwC γ67 τ72 (1, 60) fun γ73 τ74 =>
  wR τ74 x0 27 γ67.1 fun τ78 =>
  nwC γ73 τ78 (1, 64) fun γ79 τ80 =>
  wR τ80 x0 31 γ73.1 fun τ84 =>
  nwC γ79 τ84 (1, 120) fun γ85 τ86 =>
  wR τ86 x0 34 γ79.1 fun τ90 =>
  nwC γ85 τ90 (1, 4) fun γ91 τ92 =>
  wR τ92 x0 35 γ85.1 fun τ96 =>
  nwC γ91 τ96 (1, 240) fun γ97 τ98 =>
  wR τ98 x0 38 γ91.1 fun τ102 =>
  bd0 (fX13_startRead γ97.2 τ102 x0) fun τ103 =>
  bd0 (loopN (fX13_init_L149 γ97.2 x0) 1000 ((0 : Int32), τ103)) (fun τ105 => bd0 (fX13_startSo γ97.2 τ105 x0) fun τ106 =>
  some (γ97, τ106))
theorem sX13_init_L149 {l : Launch} {G : gg} {Γ : ly} {d : Nat} {Q : Option Value → ly → mm → Prop} (hdd : 1 ≤ d) {mc ms k n : Nat} (x0 : Nat) (t0 : tyOK Γ (0, 12) x0) {K : mm → Prop} (kx0 : ∀ (σ9 : mm), K σ9 → WP l G yX13_init cX13_init 2 (none) d mc ms Q k n 173 [(0, .ref (G.2.1 x0))] [] Γ σ9) : ∀ (N : Nat) (s : (Int32 × mm)) (b : mm), loopN (fX13_init_L149 Γ.2 x0) N s = some b → K b → WP l G yX13_init cX13_init 2 (none) d mc ms Q k n 149 [(0, .ref (G.2.1 x0)), (1, .int s.1)] [] Γ s.2 := by
  refine r_loop (f := fX13_init_L149 Γ.2 x0) (hlv := fun s => [(0, .ref (G.2.1 x0)), (1, .int s.1)]) (hsg := fun s => s.2) ?_
  rintro ⟨x1, σ⟩ r h hb hx
  have hb : ∀ (x1 : Int32) (σ : mm), r = .inl (x1, σ) → WP l G yX13_init cX13_init 2 (none) d mc ms Q k n 149 [(0, .ref (G.2.1 x0)), (1, .int x1)] [] Γ σ := fun x1 σ e => hb (x1, σ) e
  have hx0 : ∀ (σ9 : mm), r = .inr σ9 → WP l G yX13_init cX13_init 2 (none) d mc ms Q k n 173 [(0, .ref (G.2.1 x0))] [] Γ σ9 := fun σ9 e => kx0 σ9 (hx _ e)
  unfold fX13_init_L149 at h
  have h := un2_some h
  show WP l G yX13_init cX13_init 2 (none) d mc ms Q k n 149 [(0, .ref (G.2.1 x0)), (1, .int x1)] [] Γ σ
  refine r_iload_n 1 dX13_init_149 rfl ?_
  refine r_bipush (v := 102) dX13_init_150 (by decide) ?_
  refine r_icmp_ge 173 dX13_init_152 (by decide) h (fun _ h => ?_) (fun _ h => ?_)
  · obtain rfl := Option.some.inj h
    refine r_pick [0] rfl ?_
    exact hx0 _ rfl
  · refine r_aload_n 0 dX13_init_155 rfl ?_
    refine q_getR (e9 := (1, 0)) dX13_init_156 fd_X13_98 t0 rfl h (fun r1 tr1 h => ?_)
    refine r_iload_n 1 dX13_init_159 rfl ?_
    refine r_aload_n 0 dX13_init_160 rfl ?_
    refine q_getR (e9 := (1, 0)) dX13_init_161 fd_X13_101 t0 rfl h (fun r2 tr2 h => ?_)
    refine r_iload_n 1 dX13_init_164 rfl ?_
    refine q_iald dX13_init_165 tr2 h (fun v3 h => ?_)
    refine q_iast dX13_init_166 tr1 h (fun τ4 h => ?_)
    refine q_iinc (v := 1) 1 (fun v5 => [(1, .int v5), (0, .ref (G.2.1 x0))]) dX13_init_167 rfl (by decide) (by decide) (fun _ => rfl) h (fun v5 h => ?_)
    refine r_goto 149 dX13_init_170 (by decide) ?_
    obtain rfl := Option.some.inj h
    refine r_pick [1, 0] rfl ?_
    exact hb _ _ rfl
set_option maxHeartbeats 4000000 in
theorem kX13_init {l : Launch} {G : gg} {Γ : ly} {σ : mm} (d : Nat) (hdd : 1 ≤ d) (hfr : G.1.2.2 = true) (hL : G.1.1 + Γ.1 + 17 ≤ G.1.2.1 + 64) (x0 : Nat) (t0 : tyOK Γ (0, 12) x0) (r : ly × mm) (h : fX13_init Γ σ x0 = some r) : CT l G yX13_init cX13_init 2 none d 17 19029 [.ref (G.2.1 x0)] Γ σ (fun v Γ' σ' => v = none ∧ Γ' = r.1 ∧ σ' = r.2 ∧ Γ'.1 = Γ.1 + 17 ∧ ∀ e b, tyOK Γ e b → tyOK Γ' e b) := by
  refine CT.ofWP (by decide) (Nat.le_of_ble_eq_true rfl) ?_
  show WP l G yX13_init cX13_init 2 none d 17 19029 (fun v Γ' σ' => v = none ∧ Γ' = r.1 ∧ σ' = r.2 ∧ Γ'.1 = Γ.1 + 17 ∧ ∀ e b, tyOK Γ e b → tyOK Γ' e b) 0 0 0 [(0, .ref (G.2.1 x0))] [] Γ σ
  unfold fX13_init at h
  refine r_aload_n 0 dX13_init_0 rfl ?_
  refine r_objInit dX13_init_1 oi_X13_93 oi_i oi_c (by omega) (Nat.le_of_ble_eq_true rfl) ?_
  refine r_aload_n 0 dX13_init_4 rfl ?_
  refine r_sipush (v := 940) dX13_init_5 (by decide) ?_
  refine r_newa1' (N := 940) dX13_init_8 ak_1 hfr (by decide) (by decide) (by decide) (by omega) (by omega) (by omega) h (fun γ1 τ2 q4 gr3 tn5 h => ?_)
  refine q_putFR (e9 := (1, 0)) dX13_init_10 fd_X13_7 rfl (fun C T N q9 => by cases q9; rfl) (Or.inr ⟨_, rfl⟩) (gr3 _ _ t0) rfl tn5 h (fun τ6 h => ?_)
  refine r_aload_n 0 dX13_init_13 rfl ?_
  refine r_sipush (v := 383) dX13_init_14 (by decide) ?_
  refine r_newa1' (N := 383) dX13_init_17 ak_1 hfr (by decide) (by decide) (by decide) (by omega) (by omega) (by omega) h (fun γ7 τ8 q10 gr9 tn11 h => ?_)
  refine q_putFR (e9 := (1, 0)) dX13_init_19 fd_X13_98 rfl (fun C T N q9 => by cases q9; rfl) (Or.inr ⟨_, rfl⟩) (gr9 _ _ (gr3 _ _ t0)) rfl tn11 h (fun τ12 h => ?_)
  refine r_aload_n 0 dX13_init_22 rfl ?_
  refine r_bipush (v := 102) dX13_init_23 (by decide) ?_
  refine r_newa1' (N := 102) dX13_init_25 ak_1 hfr (by decide) (by decide) (by decide) (by omega) (by omega) (by omega) h (fun γ13 τ14 q16 gr15 tn17 h => ?_)
  refine q_putFR (e9 := (1, 0)) dX13_init_27 fd_X13_101 rfl (fun C T N q9 => by cases q9; rfl) (Or.inr ⟨_, rfl⟩) (gr15 _ _ (gr9 _ _ (gr3 _ _ t0))) rfl tn17 h (fun τ18 h => ?_)
  refine r_aload_n 0 dX13_init_30 rfl ?_
  refine r_sipush (v := 766) dX13_init_31 (by decide) ?_
  refine r_newa1' (N := 766) dX13_init_34 ak_1 hfr (by decide) (by decide) (by decide) (by omega) (by omega) (by omega) h (fun γ19 τ20 q22 gr21 tn23 h => ?_)
  refine q_putFR (e9 := (1, 0)) dX13_init_36 fd_X13_104 rfl (fun C T N q9 => by cases q9; rfl) (Or.inr ⟨_, rfl⟩) (gr21 _ _ (gr15 _ _ (gr9 _ _ (gr3 _ _ t0)))) rfl tn23 h (fun τ24 h => ?_)
  refine r_aload_n 0 dX13_init_39 rfl ?_
  refine r_sipush (v := 312) dX13_init_40 (by decide) ?_
  refine r_newa1' (N := 312) dX13_init_43 ak_1 hfr (by decide) (by decide) (by decide) (by omega) (by omega) (by omega) h (fun γ25 τ26 q28 gr27 tn29 h => ?_)
  refine q_putFR (e9 := (1, 0)) dX13_init_45 fd_X13_107 rfl (fun C T N q9 => by cases q9; rfl) (Or.inr ⟨_, rfl⟩) (gr27 _ _ (gr21 _ _ (gr15 _ _ (gr9 _ _ (gr3 _ _ t0))))) rfl tn29 h (fun τ30 h => ?_)
  refine r_aload_n 0 dX13_init_48 rfl ?_
  refine r_bipush (v := 39) dX13_init_49 (by decide) ?_
  refine r_newa1' (N := 39) dX13_init_51 ak_1 hfr (by decide) (by decide) (by decide) (by omega) (by omega) (by omega) h (fun γ31 τ32 q34 gr33 tn35 h => ?_)
  refine q_putFR (e9 := (1, 0)) dX13_init_53 fd_X13_110 rfl (fun C T N q9 => by cases q9; rfl) (Or.inr ⟨_, rfl⟩) (gr33 _ _ (gr27 _ _ (gr21 _ _ (gr15 _ _ (gr9 _ _ (gr3 _ _ t0)))))) rfl tn35 h (fun τ36 h => ?_)
  refine r_aload_n 0 dX13_init_56 rfl ?_
  refine r_bipush (v := 18) dX13_init_57 (by decide) ?_
  refine r_newa4' (N := 18) dX13_init_59 ak_4 hfr (by decide) (by decide) (by decide) (by omega) (by omega) (by omega) h (fun γ37 τ38 q40 gr39 tn41 h => ?_)
  refine q_putFR (e9 := (4, 0)) dX13_init_61 fd_X13_113 rfl (fun C T N q9 => by cases q9; rfl) (Or.inr ⟨_, rfl⟩) (gr39 _ _ (gr33 _ _ (gr27 _ _ (gr21 _ _ (gr15 _ _ (gr9 _ _ (gr3 _ _ t0))))))) rfl tn41 h (fun τ42 h => ?_)
  refine r_aload_n 0 dX13_init_64 rfl ?_
  refine r_bipush (v := 18) dX13_init_65 (by decide) ?_
  refine r_newa4' (N := 18) dX13_init_67 ak_4 hfr (by decide) (by decide) (by decide) (by omega) (by omega) (by omega) h (fun γ43 τ44 q46 gr45 tn47 h => ?_)
  refine q_putFR (e9 := (4, 0)) dX13_init_69 fd_X13_117 rfl (fun C T N q9 => by cases q9; rfl) (Or.inr ⟨_, rfl⟩) (gr45 _ _ (gr39 _ _ (gr33 _ _ (gr27 _ _ (gr21 _ _ (gr15 _ _ (gr9 _ _ (gr3 _ _ t0)))))))) rfl tn47 h (fun τ48 h => ?_)
  refine r_aload_n 0 dX13_init_72 rfl ?_
  refine r_bipush (v := 36) dX13_init_73 (by decide) ?_
  refine r_newa4' (N := 36) dX13_init_75 ak_4 hfr (by decide) (by decide) (by decide) (by omega) (by omega) (by omega) h (fun γ49 τ50 q52 gr51 tn53 h => ?_)
  refine q_putFR (e9 := (4, 0)) dX13_init_77 fd_X13_120 rfl (fun C T N q9 => by cases q9; rfl) (Or.inr ⟨_, rfl⟩) (gr51 _ _ (gr45 _ _ (gr39 _ _ (gr33 _ _ (gr27 _ _ (gr21 _ _ (gr15 _ _ (gr9 _ _ (gr3 _ _ t0))))))))) rfl tn53 h (fun τ54 h => ?_)
  refine r_aload_n 0 dX13_init_80 rfl ?_
  refine r_iconst (v := 2) dX13_init_81 (by decide) ?_
  refine r_newa3' (N := 2) dX13_init_82 ak_3 hfr (by decide) (by decide) (by decide) (by omega) (by omega) (by omega) h (fun γ55 τ56 q58 gr57 tn59 h => ?_)
  refine q_putFR (e9 := (3, 0)) dX13_init_84 fd_X13_123 rfl (fun C T N q9 => by cases q9; rfl) (Or.inr ⟨_, rfl⟩) (gr57 _ _ (gr51 _ _ (gr45 _ _ (gr39 _ _ (gr33 _ _ (gr27 _ _ (gr21 _ _ (gr15 _ _ (gr9 _ _ (gr3 _ _ t0)))))))))) rfl tn59 h (fun τ60 h => ?_)
  refine r_aload_n 0 dX13_init_87 rfl ?_
  refine r_iconst (v := 4) dX13_init_88 (by decide) ?_
  refine r_newa1' (N := 4) dX13_init_89 ak_1 hfr (by decide) (by decide) (by decide) (by omega) (by omega) (by omega) h (fun γ61 τ62 q64 gr63 tn65 h => ?_)
  refine q_putFR (e9 := (1, 0)) dX13_init_91 fd_X13_127 rfl (fun C T N q9 => by cases q9; rfl) (Or.inr ⟨_, rfl⟩) (gr63 _ _ (gr57 _ _ (gr51 _ _ (gr45 _ _ (gr39 _ _ (gr33 _ _ (gr27 _ _ (gr21 _ _ (gr15 _ _ (gr9 _ _ (gr3 _ _ t0))))))))))) rfl tn65 h (fun τ66 h => ?_)
  refine r_aload_n 0 dX13_init_94 rfl ?_
  refine r_sipush (v := 15921) dX13_init_95 (by decide) ?_
  refine r_newa1' (N := 15921) dX13_init_98 ak_1 hfr (by decide) (by decide) (by decide) (by omega) (by omega) (by omega) h (fun γ67 τ68 q70 gr69 tn71 h => ?_)
  refine q_putFR (e9 := (1, 0)) dX13_init_100 fd_X13_130 rfl (fun C T N q9 => by cases q9; rfl) (Or.inr ⟨_, rfl⟩) (gr69 _ _ (gr63 _ _ (gr57 _ _ (gr51 _ _ (gr45 _ _ (gr39 _ _ (gr33 _ _ (gr27 _ _ (gr21 _ _ (gr15 _ _ (gr9 _ _ (gr3 _ _ t0)))))))))))) rfl tn71 h (fun τ72 h => ?_)
  refine r_aload_n 0 dX13_init_103 rfl ?_
  refine r_bipush (v := 60) dX13_init_104 (by decide) ?_
  refine r_newa1' (N := 60) dX13_init_106 ak_1 hfr (by decide) (by decide) (by decide) (by omega) (by omega) (by omega) h (fun γ73 τ74 q76 gr75 tn77 h => ?_)
  refine q_putFR (e9 := (1, 0)) dX13_init_108 fd_X13_133 rfl (fun C T N q9 => by cases q9; rfl) (Or.inr ⟨_, rfl⟩) (gr75 _ _ (gr69 _ _ (gr63 _ _ (gr57 _ _ (gr51 _ _ (gr45 _ _ (gr39 _ _ (gr33 _ _ (gr27 _ _ (gr21 _ _ (gr15 _ _ (gr9 _ _ (gr3 _ _ t0))))))))))))) rfl tn77 h (fun τ78 h => ?_)
  refine r_aload_n 0 dX13_init_111 rfl ?_
  refine r_bipush (v := 64) dX13_init_112 (by decide) ?_
  refine r_newa1' (N := 64) dX13_init_114 ak_1 hfr (by decide) (by decide) (by decide) (by omega) (by omega) (by omega) h (fun γ79 τ80 q82 gr81 tn83 h => ?_)
  refine q_putFR (e9 := (1, 0)) dX13_init_116 fd_X13_136 rfl (fun C T N q9 => by cases q9; rfl) (Or.inr ⟨_, rfl⟩) (gr81 _ _ (gr75 _ _ (gr69 _ _ (gr63 _ _ (gr57 _ _ (gr51 _ _ (gr45 _ _ (gr39 _ _ (gr33 _ _ (gr27 _ _ (gr21 _ _ (gr15 _ _ (gr9 _ _ (gr3 _ _ t0)))))))))))))) rfl tn83 h (fun τ84 h => ?_)
  refine r_aload_n 0 dX13_init_119 rfl ?_
  refine r_bipush (v := 120) dX13_init_120 (by decide) ?_
  refine r_newa1' (N := 120) dX13_init_122 ak_1 hfr (by decide) (by decide) (by decide) (by omega) (by omega) (by omega) h (fun γ85 τ86 q88 gr87 tn89 h => ?_)
  refine q_putFR (e9 := (1, 0)) dX13_init_124 fd_X13_139 rfl (fun C T N q9 => by cases q9; rfl) (Or.inr ⟨_, rfl⟩) (gr87 _ _ (gr81 _ _ (gr75 _ _ (gr69 _ _ (gr63 _ _ (gr57 _ _ (gr51 _ _ (gr45 _ _ (gr39 _ _ (gr33 _ _ (gr27 _ _ (gr21 _ _ (gr15 _ _ (gr9 _ _ (gr3 _ _ t0))))))))))))))) rfl tn89 h (fun τ90 h => ?_)
  refine r_aload_n 0 dX13_init_127 rfl ?_
  refine r_iconst (v := 4) dX13_init_128 (by decide) ?_
  refine r_newa1' (N := 4) dX13_init_129 ak_1 hfr (by decide) (by decide) (by decide) (by omega) (by omega) (by omega) h (fun γ91 τ92 q94 gr93 tn95 h => ?_)
  refine q_putFR (e9 := (1, 0)) dX13_init_131 fd_X13_142 rfl (fun C T N q9 => by cases q9; rfl) (Or.inr ⟨_, rfl⟩) (gr93 _ _ (gr87 _ _ (gr81 _ _ (gr75 _ _ (gr69 _ _ (gr63 _ _ (gr57 _ _ (gr51 _ _ (gr45 _ _ (gr39 _ _ (gr33 _ _ (gr27 _ _ (gr21 _ _ (gr15 _ _ (gr9 _ _ (gr3 _ _ t0)))))))))))))))) rfl tn95 h (fun τ96 h => ?_)
  refine r_aload_n 0 dX13_init_134 rfl ?_
  refine r_sipush (v := 240) dX13_init_135 (by decide) ?_
  refine r_newa1' (N := 240) dX13_init_138 ak_1 hfr (by decide) (by decide) (by decide) (by omega) (by omega) (by omega) h (fun γ97 τ98 q100 gr99 tn101 h => ?_)
  refine q_putFR (e9 := (1, 0)) dX13_init_140 fd_X13_145 rfl (fun C T N q9 => by cases q9; rfl) (Or.inr ⟨_, rfl⟩) (gr99 _ _ (gr93 _ _ (gr87 _ _ (gr81 _ _ (gr75 _ _ (gr69 _ _ (gr63 _ _ (gr57 _ _ (gr51 _ _ (gr45 _ _ (gr39 _ _ (gr33 _ _ (gr27 _ _ (gr21 _ _ (gr15 _ _ (gr9 _ _ (gr3 _ _ t0))))))))))))))))) rfl tn101 h (fun τ102 h => ?_)
  refine r_aload_n 0 dX13_init_143 rfl ?_
  obtain ⟨τ103, eτ103, h⟩ := bd0_some h
  refine q_cVVg dX13_init_144 cv_X13_148 (ci := 12) rfl rfl (gr99 _ _ (gr93 _ _ (gr87 _ _ (gr81 _ _ (gr75 _ _ (gr69 _ _ (gr63 _ _ (gr57 _ _ (gr51 _ _ (gr45 _ _ (gr39 _ _ (gr33 _ _ (gr27 _ _ (gr21 _ _ (gr15 _ _ (gr9 _ _ (gr3 _ _ t0))))))))))))))))) rfl (Nat.le_of_ble_eq_true rfl) (by omega) (by omega) (by omega) (kX13_startRead (d - 1) (by omega) x0 (gr99 _ _ (gr93 _ _ (gr87 _ _ (gr81 _ _ (gr75 _ _ (gr69 _ _ (gr63 _ _ (gr57 _ _ (gr51 _ _ (gr45 _ _ (gr39 _ _ (gr33 _ _ (gr27 _ _ (gr21 _ _ (gr15 _ _ (gr9 _ _ (gr3 _ _ t0))))))))))))))))) τ103 eτ103) ?_
  refine r_iconst (v := 0) dX13_init_147 (by decide) ?_
  refine r_istore_n (lv' := [(1, .int (0 : Int32)), (0, .ref (G.2.1 x0))]) dX13_init_148 (by decide) rfl ?_
  obtain ⟨b104, eb104, h⟩ := bd0_some h
  refine r_pick [1, 0] rfl ?_
  refine sX13_init_L149 hdd x0 (gr99 _ _ (gr93 _ _ (gr87 _ _ (gr81 _ _ (gr75 _ _ (gr69 _ _ (gr63 _ _ (gr57 _ _ (gr51 _ _ (gr45 _ _ (gr39 _ _ (gr33 _ _ (gr27 _ _ (gr21 _ _ (gr15 _ _ (gr9 _ _ (gr3 _ _ t0))))))))))))))))) (K := fun b => b = b104) ?_ 1000 ((0 : Int32), τ103) b104 eb104 rfl
  rintro τ105 rfl
  refine r_aload_n 0 dX13_init_173 rfl ?_
  obtain ⟨τ106, eτ106, h⟩ := bd0_some h
  refine q_cVVg dX13_init_174 cv_X13_151 (ci := 12) rfl rfl (gr99 _ _ (gr93 _ _ (gr87 _ _ (gr81 _ _ (gr75 _ _ (gr69 _ _ (gr63 _ _ (gr57 _ _ (gr51 _ _ (gr45 _ _ (gr39 _ _ (gr33 _ _ (gr27 _ _ (gr21 _ _ (gr15 _ _ (gr9 _ _ (gr3 _ _ t0))))))))))))))))) rfl (Nat.le_of_ble_eq_true rfl) (by omega) (by omega) (by omega) (kX13_startSo (d - 1) (by omega) x0 (gr99 _ _ (gr93 _ _ (gr87 _ _ (gr81 _ _ (gr75 _ _ (gr69 _ _ (gr63 _ _ (gr57 _ _ (gr51 _ _ (gr45 _ _ (gr39 _ _ (gr33 _ _ (gr27 _ _ (gr21 _ _ (gr15 _ _ (gr9 _ _ (gr3 _ _ t0))))))))))))))))) τ106 eτ106) ?_
  obtain rfl := Option.some.inj h
  exact r_return dX13_init_177 rfl ⟨rfl, rfl, rfl, by (try dsimp only); omega, fun e9 b9 q9 => (gr99 _ _ (gr93 _ _ (gr87 _ _ (gr81 _ _ (gr75 _ _ (gr69 _ _ (gr63 _ _ (gr57 _ _ (gr51 _ _ (gr45 _ _ (gr39 _ _ (gr33 _ _ (gr27 _ _ (gr21 _ _ (gr15 _ _ (gr9 _ _ (gr3 _ _ q9)))))))))))))))))⟩ (by omega) (by omega)
def fX1_init (Γ : ly) (σ : mm) (x0 : Nat) (x1 : Nat) (x2 : Nat) : Option (ly × mm) :=
  nwC Γ σ (1, 600) fun γ1 τ2 =>
  wR τ2 x0 2 Γ.1 fun τ6 =>
  nwC γ1 τ6 (1, 600) fun γ7 τ8 =>
  wR τ8 x0 3 γ1.1 fun τ12 =>
  wR τ12 x0 0 x1 fun τ13 =>
  wR τ13 x0 1 x2 fun τ14 =>
  some (γ7, τ14)
set_option maxHeartbeats 4000000 in
theorem kX1_init {l : Launch} {G : gg} {Γ : ly} {σ : mm} (d : Nat) (hdd : 1 ≤ d) (hfr : G.1.2.2 = true) (hL : G.1.1 + Γ.1 + 2 ≤ G.1.2.1 + 64) (x0 : Nat) (x1 : Nat) (x2 : Nat) (t0 : tyOK Γ (0, 1) x0) (t1 : tyOK Γ (0, 4) x1) (t2 : tyOK Γ (0, 3) x2) (r : ly × mm) (h : fX1_init Γ σ x0 x1 x2 = some r) : CT l G yX1_init cX1_init 3 none d 2 1200 [.ref (G.2.1 x0), .ref (G.2.1 x1), .ref (G.2.1 x2)] Γ σ (fun v Γ' σ' => v = none ∧ Γ' = r.1 ∧ σ' = r.2 ∧ Γ'.1 = Γ.1 + 2 ∧ ∀ e b, tyOK Γ e b → tyOK Γ' e b) := by
  refine CT.ofWP (by decide) (Nat.le_of_ble_eq_true rfl) ?_
  show WP l G yX1_init cX1_init 3 none d 2 1200 (fun v Γ' σ' => v = none ∧ Γ' = r.1 ∧ σ' = r.2 ∧ Γ'.1 = Γ.1 + 2 ∧ ∀ e b, tyOK Γ e b → tyOK Γ' e b) 0 0 0 [(0, .ref (G.2.1 x0)), (1, .ref (G.2.1 x1)), (2, .ref (G.2.1 x2))] [] Γ σ
  unfold fX1_init at h
  refine r_aload_n 0 dX1_init_0 rfl ?_
  refine r_objInit dX1_init_1 oi_X1_3 oi_i oi_c (by omega) (Nat.le_of_ble_eq_true rfl) ?_
  refine r_aload_n 0 dX1_init_4 rfl ?_
  refine r_sipush (v := 600) dX1_init_5 (by decide) ?_
  refine r_newa1' (N := 600) dX1_init_8 ak_1 hfr (by decide) (by decide) (by decide) (by omega) (by omega) (by omega) h (fun γ1 τ2 q4 gr3 tn5 h => ?_)
  refine q_putFR (e9 := (1, 0)) dX1_init_10 fd_X1_9 rfl (fun C T N q9 => by cases q9; rfl) (Or.inr ⟨_, rfl⟩) (gr3 _ _ t0) rfl tn5 h (fun τ6 h => ?_)
  refine r_aload_n 0 dX1_init_13 rfl ?_
  refine r_sipush (v := 600) dX1_init_14 (by decide) ?_
  refine r_newa1' (N := 600) dX1_init_17 ak_1 hfr (by decide) (by decide) (by decide) (by omega) (by omega) (by omega) h (fun γ7 τ8 q10 gr9 tn11 h => ?_)
  refine q_putFR (e9 := (1, 0)) dX1_init_19 fd_X1_15 rfl (fun C T N q9 => by cases q9; rfl) (Or.inr ⟨_, rfl⟩) (gr9 _ _ (gr3 _ _ t0)) rfl tn11 h (fun τ12 h => ?_)
  refine r_aload_n 0 dX1_init_22 rfl ?_
  refine r_aload_n 1 dX1_init_23 rfl ?_
  refine q_putFR (e9 := (0, 4)) dX1_init_24 fd_X1_18 rfl (fun C T N q9 => by cases q9; rfl) (Or.inl ⟨_, rfl⟩) (gr9 _ _ (gr3 _ _ t0)) rfl (gr9 _ _ (gr3 _ _ t1)) h (fun τ13 h => ?_)
  refine r_aload_n 0 dX1_init_27 rfl ?_
  refine r_aload_n 2 dX1_init_28 rfl ?_
  refine q_putFR (e9 := (0, 3)) dX1_init_29 fd_X1_22 rfl (fun C T N q9 => by cases q9; rfl) (Or.inl ⟨_, rfl⟩) (gr9 _ _ (gr3 _ _ t0)) rfl (gr9 _ _ (gr3 _ _ t2)) h (fun τ14 h => ?_)
  obtain rfl := Option.some.inj h
  exact r_return dX1_init_32 rfl ⟨rfl, rfl, rfl, by (try dsimp only); omega, fun e9 b9 q9 => (gr9 _ _ (gr3 _ _ q9))⟩ (by omega) (by omega)
def fX2_init (Γ : ly) (σ : mm) (x0 : Nat) : Option (ly × mm) :=
  nwC Γ σ (4, 6) fun γ1 τ2 =>
  wR τ2 x0 0 Γ.1 fun τ6 =>
  nwC γ1 τ6 (1, 6) fun γ7 τ8 =>
  wR τ8 x0 1 γ1.1 fun τ12 =>
  nwC γ7 τ12 (1, 6) fun γ13 τ14 =>
  wR τ14 x0 2 γ7.1 fun τ18 =>
  nwC γ13 τ18 (1, 6) fun γ19 τ20 =>
  wR τ20 x0 3 γ13.1 fun τ24 =>
  some (γ19, τ24)
set_option maxHeartbeats 4000000 in
theorem kX2_init {l : Launch} {G : gg} {Γ : ly} {σ : mm} (d : Nat) (hdd : 1 ≤ d) (hfr : G.1.2.2 = true) (hL : G.1.1 + Γ.1 + 4 ≤ G.1.2.1 + 64) (x0 : Nat) (t0 : tyOK Γ (0, 2) x0) (r : ly × mm) (h : fX2_init Γ σ x0 = some r) : CT l G yX2_init cX2_init 1 none d 4 24 [.ref (G.2.1 x0)] Γ σ (fun v Γ' σ' => v = none ∧ Γ' = r.1 ∧ σ' = r.2 ∧ Γ'.1 = Γ.1 + 4 ∧ ∀ e b, tyOK Γ e b → tyOK Γ' e b) := by
  refine CT.ofWP (by decide) (Nat.le_of_ble_eq_true rfl) ?_
  show WP l G yX2_init cX2_init 1 none d 4 24 (fun v Γ' σ' => v = none ∧ Γ' = r.1 ∧ σ' = r.2 ∧ Γ'.1 = Γ.1 + 4 ∧ ∀ e b, tyOK Γ e b → tyOK Γ' e b) 0 0 0 [(0, .ref (G.2.1 x0))] [] Γ σ
  unfold fX2_init at h
  refine r_aload_n 0 dX2_init_0 rfl ?_
  refine r_objInit dX2_init_1 oi_X2_3 oi_i oi_c (by omega) (Nat.le_of_ble_eq_true rfl) ?_
  refine r_aload_n 0 dX2_init_4 rfl ?_
  refine r_bipush (v := 6) dX2_init_5 (by decide) ?_
  refine r_newa4' (N := 6) dX2_init_7 ak_4 hfr (by decide) (by decide) (by decide) (by omega) (by omega) (by omega) h (fun γ1 τ2 q4 gr3 tn5 h => ?_)
  refine q_putFR (e9 := (4, 0)) dX2_init_9 fd_X2_9 rfl (fun C T N q9 => by cases q9; rfl) (Or.inr ⟨_, rfl⟩) (gr3 _ _ t0) rfl tn5 h (fun τ6 h => ?_)
  refine r_aload_n 0 dX2_init_12 rfl ?_
  refine r_bipush (v := 6) dX2_init_13 (by decide) ?_
  refine r_newa1' (N := 6) dX2_init_15 ak_1 hfr (by decide) (by decide) (by decide) (by omega) (by omega) (by omega) h (fun γ7 τ8 q10 gr9 tn11 h => ?_)
  refine q_putFR (e9 := (1, 0)) dX2_init_17 fd_X2_15 rfl (fun C T N q9 => by cases q9; rfl) (Or.inr ⟨_, rfl⟩) (gr9 _ _ (gr3 _ _ t0)) rfl tn11 h (fun τ12 h => ?_)
  refine r_aload_n 0 dX2_init_20 rfl ?_
  refine r_bipush (v := 6) dX2_init_21 (by decide) ?_
  refine r_newa1' (N := 6) dX2_init_23 ak_1 hfr (by decide) (by decide) (by decide) (by omega) (by omega) (by omega) h (fun γ13 τ14 q16 gr15 tn17 h => ?_)
  refine q_putFR (e9 := (1, 0)) dX2_init_25 fd_X2_19 rfl (fun C T N q9 => by cases q9; rfl) (Or.inr ⟨_, rfl⟩) (gr15 _ _ (gr9 _ _ (gr3 _ _ t0))) rfl tn17 h (fun τ18 h => ?_)
  refine r_aload_n 0 dX2_init_28 rfl ?_
  refine r_bipush (v := 6) dX2_init_29 (by decide) ?_
  refine r_newa1' (N := 6) dX2_init_31 ak_1 hfr (by decide) (by decide) (by decide) (by omega) (by omega) (by omega) h (fun γ19 τ20 q22 gr21 tn23 h => ?_)
  refine q_putFR (e9 := (1, 0)) dX2_init_33 fd_X2_22 rfl (fun C T N q9 => by cases q9; rfl) (Or.inr ⟨_, rfl⟩) (gr21 _ _ (gr15 _ _ (gr9 _ _ (gr3 _ _ t0)))) rfl tn23 h (fun τ24 h => ?_)
  obtain rfl := Option.some.inj h
  exact r_return dX2_init_36 rfl ⟨rfl, rfl, rfl, by (try dsimp only); omega, fun e9 b9 q9 => (gr21 _ _ (gr15 _ _ (gr9 _ _ (gr3 _ _ q9))))⟩ (by omega) (by omega)
def fX3_init (Γ : ly) (σ : mm) (x0 : Nat) (x1 : Nat) : Option (ly × mm) :=
  nwC Γ σ (1, 8) fun γ1 τ2 =>
  wR τ2 x0 4 Γ.1 fun τ6 =>
  nwC γ1 τ6 (1, 8) fun γ7 τ8 =>
  wR τ8 x0 5 γ1.1 fun τ12 =>
  nwC γ7 τ12 (1, 4) fun γ13 τ14 =>
  wR τ14 x0 6 γ7.1 fun τ18 =>
  nwC γ13 τ18 (1, 4) fun γ19 τ20 =>
  wR τ20 x0 7 γ13.1 fun τ24 =>
  nwC γ19 τ24 (1, 4) fun γ25 τ26 =>
  wR τ26 x0 8 γ19.1 fun τ30 =>
  nwC γ25 τ30 (1, 4) fun γ31 τ32 =>
  wR τ32 x0 9 γ25.1 fun τ36 =>
  nwC γ31 τ36 (1, 4) fun γ37 τ38 =>
  wR τ38 x0 10 γ31.1 fun τ42 =>
  wR τ42 x0 0 x1 fun τ43 =>
  some (γ37, τ43)
set_option maxHeartbeats 4000000 in
theorem kX3_init {l : Launch} {G : gg} {Γ : ly} {σ : mm} (d : Nat) (hdd : 1 ≤ d) (hfr : G.1.2.2 = true) (hL : G.1.1 + Γ.1 + 7 ≤ G.1.2.1 + 64) (x0 : Nat) (x1 : Nat) (t0 : tyOK Γ (0, 3) x0) (t1 : tyOK Γ (0, 4) x1) (r : ly × mm) (h : fX3_init Γ σ x0 x1 = some r) : CT l G yX3_init cX3_init 2 none d 7 36 [.ref (G.2.1 x0), .ref (G.2.1 x1)] Γ σ (fun v Γ' σ' => v = none ∧ Γ' = r.1 ∧ σ' = r.2 ∧ Γ'.1 = Γ.1 + 7 ∧ ∀ e b, tyOK Γ e b → tyOK Γ' e b) := by
  refine CT.ofWP (by decide) (Nat.le_of_ble_eq_true rfl) ?_
  show WP l G yX3_init cX3_init 2 none d 7 36 (fun v Γ' σ' => v = none ∧ Γ' = r.1 ∧ σ' = r.2 ∧ Γ'.1 = Γ.1 + 7 ∧ ∀ e b, tyOK Γ e b → tyOK Γ' e b) 0 0 0 [(0, .ref (G.2.1 x0)), (1, .ref (G.2.1 x1))] [] Γ σ
  unfold fX3_init at h
  refine r_aload_n 0 dX3_init_0 rfl ?_
  refine r_objInit dX3_init_1 oi_X3_3 oi_i oi_c (by omega) (Nat.le_of_ble_eq_true rfl) ?_
  refine r_aload_n 0 dX3_init_4 rfl ?_
  refine r_bipush (v := 8) dX3_init_5 (by decide) ?_
  refine r_newa1' (N := 8) dX3_init_7 ak_1 hfr (by decide) (by decide) (by decide) (by omega) (by omega) (by omega) h (fun γ1 τ2 q4 gr3 tn5 h => ?_)
  refine q_putFR (e9 := (1, 0)) dX3_init_9 fd_X3_9 rfl (fun C T N q9 => by cases q9; rfl) (Or.inr ⟨_, rfl⟩) (gr3 _ _ t0) rfl tn5 h (fun τ6 h => ?_)
  refine r_aload_n 0 dX3_init_12 rfl ?_
  refine r_bipush (v := 8) dX3_init_13 (by decide) ?_
  refine r_newa1' (N := 8) dX3_init_15 ak_1 hfr (by decide) (by decide) (by decide) (by omega) (by omega) (by omega) h (fun γ7 τ8 q10 gr9 tn11 h => ?_)
  refine q_putFR (e9 := (1, 0)) dX3_init_17 fd_X3_15 rfl (fun C T N q9 => by cases q9; rfl) (Or.inr ⟨_, rfl⟩) (gr9 _ _ (gr3 _ _ t0)) rfl tn11 h (fun τ12 h => ?_)
  refine r_aload_n 0 dX3_init_20 rfl ?_
  refine r_iconst (v := 4) dX3_init_21 (by decide) ?_
  refine r_newa1' (N := 4) dX3_init_22 ak_1 hfr (by decide) (by decide) (by decide) (by omega) (by omega) (by omega) h (fun γ13 τ14 q16 gr15 tn17 h => ?_)
  refine q_putFR (e9 := (1, 0)) dX3_init_24 fd_X3_18 rfl (fun C T N q9 => by cases q9; rfl) (Or.inr ⟨_, rfl⟩) (gr15 _ _ (gr9 _ _ (gr3 _ _ t0))) rfl tn17 h (fun τ18 h => ?_)
  refine r_aload_n 0 dX3_init_27 rfl ?_
  refine r_iconst (v := 4) dX3_init_28 (by decide) ?_
  refine r_newa1' (N := 4) dX3_init_29 ak_1 hfr (by decide) (by decide) (by decide) (by omega) (by omega) (by omega) h (fun γ19 τ20 q22 gr21 tn23 h => ?_)
  refine q_putFR (e9 := (1, 0)) dX3_init_31 fd_X3_21 rfl (fun C T N q9 => by cases q9; rfl) (Or.inr ⟨_, rfl⟩) (gr21 _ _ (gr15 _ _ (gr9 _ _ (gr3 _ _ t0)))) rfl tn23 h (fun τ24 h => ?_)
  refine r_aload_n 0 dX3_init_34 rfl ?_
  refine r_iconst (v := 4) dX3_init_35 (by decide) ?_
  refine r_newa1' (N := 4) dX3_init_36 ak_1 hfr (by decide) (by decide) (by decide) (by omega) (by omega) (by omega) h (fun γ25 τ26 q28 gr27 tn29 h => ?_)
  refine q_putFR (e9 := (1, 0)) dX3_init_38 fd_X3_24 rfl (fun C T N q9 => by cases q9; rfl) (Or.inr ⟨_, rfl⟩) (gr27 _ _ (gr21 _ _ (gr15 _ _ (gr9 _ _ (gr3 _ _ t0))))) rfl tn29 h (fun τ30 h => ?_)
  refine r_aload_n 0 dX3_init_41 rfl ?_
  refine r_iconst (v := 4) dX3_init_42 (by decide) ?_
  refine r_newa1' (N := 4) dX3_init_43 ak_1 hfr (by decide) (by decide) (by decide) (by omega) (by omega) (by omega) h (fun γ31 τ32 q34 gr33 tn35 h => ?_)
  refine q_putFR (e9 := (1, 0)) dX3_init_45 fd_X3_27 rfl (fun C T N q9 => by cases q9; rfl) (Or.inr ⟨_, rfl⟩) (gr33 _ _ (gr27 _ _ (gr21 _ _ (gr15 _ _ (gr9 _ _ (gr3 _ _ t0)))))) rfl tn35 h (fun τ36 h => ?_)
  refine r_aload_n 0 dX3_init_48 rfl ?_
  refine r_iconst (v := 4) dX3_init_49 (by decide) ?_
  refine r_newa1' (N := 4) dX3_init_50 ak_1 hfr (by decide) (by decide) (by decide) (by omega) (by omega) (by omega) h (fun γ37 τ38 q40 gr39 tn41 h => ?_)
  refine q_putFR (e9 := (1, 0)) dX3_init_52 fd_X3_30 rfl (fun C T N q9 => by cases q9; rfl) (Or.inr ⟨_, rfl⟩) (gr39 _ _ (gr33 _ _ (gr27 _ _ (gr21 _ _ (gr15 _ _ (gr9 _ _ (gr3 _ _ t0))))))) rfl tn41 h (fun τ42 h => ?_)
  refine r_aload_n 0 dX3_init_55 rfl ?_
  refine r_aload_n 1 dX3_init_56 rfl ?_
  refine q_putFR (e9 := (0, 4)) dX3_init_57 fd_X3_33 rfl (fun C T N q9 => by cases q9; rfl) (Or.inl ⟨_, rfl⟩) (gr39 _ _ (gr33 _ _ (gr27 _ _ (gr21 _ _ (gr15 _ _ (gr9 _ _ (gr3 _ _ t0))))))) rfl (gr39 _ _ (gr33 _ _ (gr27 _ _ (gr21 _ _ (gr15 _ _ (gr9 _ _ (gr3 _ _ t1))))))) h (fun τ43 h => ?_)
  obtain rfl := Option.some.inj h
  exact r_return dX3_init_60 rfl ⟨rfl, rfl, rfl, by (try dsimp only); omega, fun e9 b9 q9 => (gr39 _ _ (gr33 _ _ (gr27 _ _ (gr21 _ _ (gr15 _ _ (gr9 _ _ (gr3 _ _ q9)))))))⟩ (by omega) (by omega)
def fX4_init (Γ : ly) (σ : mm) (x0 : Nat) : Option (ly × mm) :=
  nwC Γ σ (4, 8) fun γ1 τ2 =>
  wR τ2 x0 0 Γ.1 fun τ6 =>
  nwC γ1 τ6 (1, 8) fun γ7 τ8 =>
  wR τ8 x0 1 γ1.1 fun τ12 =>
  nwC γ7 τ12 (1, 8) fun γ13 τ14 =>
  wR τ14 x0 2 γ7.1 fun τ18 =>
  nwC γ13 τ18 (1, 8) fun γ19 τ20 =>
  wR τ20 x0 3 γ13.1 fun τ24 =>
  nwC γ19 τ24 (1, 8) fun γ25 τ26 =>
  wR τ26 x0 4 γ19.1 fun τ30 =>
  nwC γ25 τ30 (1, 8) fun γ31 τ32 =>
  wR τ32 x0 5 γ25.1 fun τ36 =>
  nwC γ31 τ36 (4, 4) fun γ37 τ38 =>
  wR τ38 x0 7 γ31.1 fun τ42 =>
  nwC γ37 τ42 (1, 4) fun γ43 τ44 =>
  wR τ44 x0 8 γ37.1 fun τ48 =>
  nwC γ43 τ48 (1, 4) fun γ49 τ50 =>
  wR τ50 x0 9 γ43.1 fun τ54 =>
  nwC γ49 τ54 (1, 4) fun γ55 τ56 =>
  wR τ56 x0 10 γ49.1 fun τ60 =>
  nwC γ55 τ60 (1, 4) fun γ61 τ62 =>
  wR τ62 x0 11 γ55.1 fun τ66 =>
  nwC γ61 τ66 (1, 12) fun γ67 τ68 =>
  wR τ68 x0 13 γ61.1 fun τ72 =>
  nwC γ67 τ72 (0, 2) fun γ73 τ74 =>
  bdC (fX2_init γ73 τ74 γ67.1) fun γ78 τ79 =>
  wR τ79 x0 15 γ67.1 fun τ82 =>
  wI τ82 x0 16 (2 : Int32) fun τ83 =>
  wI τ83 x0 17 (50 : Int32) fun τ84 =>
  some (γ78, τ84)
set_option maxHeartbeats 4000000 in
theorem kX4_init {l : Launch} {G : gg} {Γ : ly} {σ : mm} (d : Nat) (hdd : 2 ≤ d) (hfr : G.1.2.2 = true) (hL : G.1.1 + Γ.1 + 17 ≤ G.1.2.1 + 64) (x0 : Nat) (t0 : tyOK Γ (0, 4) x0) (r : ly × mm) (h : fX4_init Γ σ x0 = some r) : CT l G yX4_init cX4_init 1 none d 17 109 [.ref (G.2.1 x0)] Γ σ (fun v Γ' σ' => v = none ∧ Γ' = r.1 ∧ σ' = r.2 ∧ Γ'.1 = Γ.1 + 17 ∧ ∀ e b, tyOK Γ e b → tyOK Γ' e b) := by
  refine CT.ofWP (by decide) (Nat.le_of_ble_eq_true rfl) ?_
  show WP l G yX4_init cX4_init 1 none d 17 109 (fun v Γ' σ' => v = none ∧ Γ' = r.1 ∧ σ' = r.2 ∧ Γ'.1 = Γ.1 + 17 ∧ ∀ e b, tyOK Γ e b → tyOK Γ' e b) 0 0 0 [(0, .ref (G.2.1 x0))] [] Γ σ
  unfold fX4_init at h
  refine r_aload_n 0 dX4_init_0 rfl ?_
  refine r_objInit dX4_init_1 oi_X4_3 oi_i oi_c (by omega) (Nat.le_of_ble_eq_true rfl) ?_
  refine r_aload_n 0 dX4_init_4 rfl ?_
  refine r_bipush (v := 8) dX4_init_5 (by decide) ?_
  refine r_newa4' (N := 8) dX4_init_7 ak_4 hfr (by decide) (by decide) (by decide) (by omega) (by omega) (by omega) h (fun γ1 τ2 q4 gr3 tn5 h => ?_)
  refine q_putFR (e9 := (4, 0)) dX4_init_9 fd_X4_9 rfl (fun C T N q9 => by cases q9; rfl) (Or.inr ⟨_, rfl⟩) (gr3 _ _ t0) rfl tn5 h (fun τ6 h => ?_)
  refine r_aload_n 0 dX4_init_12 rfl ?_
  refine r_bipush (v := 8) dX4_init_13 (by decide) ?_
  refine r_newa1' (N := 8) dX4_init_15 ak_1 hfr (by decide) (by decide) (by decide) (by omega) (by omega) (by omega) h (fun γ7 τ8 q10 gr9 tn11 h => ?_)
  refine q_putFR (e9 := (1, 0)) dX4_init_17 fd_X4_15 rfl (fun C T N q9 => by cases q9; rfl) (Or.inr ⟨_, rfl⟩) (gr9 _ _ (gr3 _ _ t0)) rfl tn11 h (fun τ12 h => ?_)
  refine r_aload_n 0 dX4_init_20 rfl ?_
  refine r_bipush (v := 8) dX4_init_21 (by decide) ?_
  refine r_newa1' (N := 8) dX4_init_23 ak_1 hfr (by decide) (by decide) (by decide) (by omega) (by omega) (by omega) h (fun γ13 τ14 q16 gr15 tn17 h => ?_)
  refine q_putFR (e9 := (1, 0)) dX4_init_25 fd_X4_19 rfl (fun C T N q9 => by cases q9; rfl) (Or.inr ⟨_, rfl⟩) (gr15 _ _ (gr9 _ _ (gr3 _ _ t0))) rfl tn17 h (fun τ18 h => ?_)
  refine r_aload_n 0 dX4_init_28 rfl ?_
  refine r_bipush (v := 8) dX4_init_29 (by decide) ?_
  refine r_newa1' (N := 8) dX4_init_31 ak_1 hfr (by decide) (by decide) (by decide) (by omega) (by omega) (by omega) h (fun γ19 τ20 q22 gr21 tn23 h => ?_)
  refine q_putFR (e9 := (1, 0)) dX4_init_33 fd_X4_22 rfl (fun C T N q9 => by cases q9; rfl) (Or.inr ⟨_, rfl⟩) (gr21 _ _ (gr15 _ _ (gr9 _ _ (gr3 _ _ t0)))) rfl tn23 h (fun τ24 h => ?_)
  refine r_aload_n 0 dX4_init_36 rfl ?_
  refine r_bipush (v := 8) dX4_init_37 (by decide) ?_
  refine r_newa1' (N := 8) dX4_init_39 ak_1 hfr (by decide) (by decide) (by decide) (by omega) (by omega) (by omega) h (fun γ25 τ26 q28 gr27 tn29 h => ?_)
  refine q_putFR (e9 := (1, 0)) dX4_init_41 fd_X4_25 rfl (fun C T N q9 => by cases q9; rfl) (Or.inr ⟨_, rfl⟩) (gr27 _ _ (gr21 _ _ (gr15 _ _ (gr9 _ _ (gr3 _ _ t0))))) rfl tn29 h (fun τ30 h => ?_)
  refine r_aload_n 0 dX4_init_44 rfl ?_
  refine r_bipush (v := 8) dX4_init_45 (by decide) ?_
  refine r_newa1' (N := 8) dX4_init_47 ak_1 hfr (by decide) (by decide) (by decide) (by omega) (by omega) (by omega) h (fun γ31 τ32 q34 gr33 tn35 h => ?_)
  refine q_putFR (e9 := (1, 0)) dX4_init_49 fd_X4_28 rfl (fun C T N q9 => by cases q9; rfl) (Or.inr ⟨_, rfl⟩) (gr33 _ _ (gr27 _ _ (gr21 _ _ (gr15 _ _ (gr9 _ _ (gr3 _ _ t0)))))) rfl tn35 h (fun τ36 h => ?_)
  refine r_aload_n 0 dX4_init_52 rfl ?_
  refine r_iconst (v := 4) dX4_init_53 (by decide) ?_
  refine r_newa4' (N := 4) dX4_init_54 ak_4 hfr (by decide) (by decide) (by decide) (by omega) (by omega) (by omega) h (fun γ37 τ38 q40 gr39 tn41 h => ?_)
  refine q_putFR (e9 := (4, 0)) dX4_init_56 fd_X4_31 rfl (fun C T N q9 => by cases q9; rfl) (Or.inr ⟨_, rfl⟩) (gr39 _ _ (gr33 _ _ (gr27 _ _ (gr21 _ _ (gr15 _ _ (gr9 _ _ (gr3 _ _ t0))))))) rfl tn41 h (fun τ42 h => ?_)
  refine r_aload_n 0 dX4_init_59 rfl ?_
  refine r_iconst (v := 4) dX4_init_60 (by decide) ?_
  refine r_newa1' (N := 4) dX4_init_61 ak_1 hfr (by decide) (by decide) (by decide) (by omega) (by omega) (by omega) h (fun γ43 τ44 q46 gr45 tn47 h => ?_)
  refine q_putFR (e9 := (1, 0)) dX4_init_63 fd_X4_34 rfl (fun C T N q9 => by cases q9; rfl) (Or.inr ⟨_, rfl⟩) (gr45 _ _ (gr39 _ _ (gr33 _ _ (gr27 _ _ (gr21 _ _ (gr15 _ _ (gr9 _ _ (gr3 _ _ t0)))))))) rfl tn47 h (fun τ48 h => ?_)
  refine r_aload_n 0 dX4_init_66 rfl ?_
  refine r_iconst (v := 4) dX4_init_67 (by decide) ?_
  refine r_newa1' (N := 4) dX4_init_68 ak_1 hfr (by decide) (by decide) (by decide) (by omega) (by omega) (by omega) h (fun γ49 τ50 q52 gr51 tn53 h => ?_)
  refine q_putFR (e9 := (1, 0)) dX4_init_70 fd_X4_37 rfl (fun C T N q9 => by cases q9; rfl) (Or.inr ⟨_, rfl⟩) (gr51 _ _ (gr45 _ _ (gr39 _ _ (gr33 _ _ (gr27 _ _ (gr21 _ _ (gr15 _ _ (gr9 _ _ (gr3 _ _ t0))))))))) rfl tn53 h (fun τ54 h => ?_)
  refine r_aload_n 0 dX4_init_73 rfl ?_
  refine r_iconst (v := 4) dX4_init_74 (by decide) ?_
  refine r_newa1' (N := 4) dX4_init_75 ak_1 hfr (by decide) (by decide) (by decide) (by omega) (by omega) (by omega) h (fun γ55 τ56 q58 gr57 tn59 h => ?_)
  refine q_putFR (e9 := (1, 0)) dX4_init_77 fd_X4_40 rfl (fun C T N q9 => by cases q9; rfl) (Or.inr ⟨_, rfl⟩) (gr57 _ _ (gr51 _ _ (gr45 _ _ (gr39 _ _ (gr33 _ _ (gr27 _ _ (gr21 _ _ (gr15 _ _ (gr9 _ _ (gr3 _ _ t0)))))))))) rfl tn59 h (fun τ60 h => ?_)
  refine r_aload_n 0 dX4_init_80 rfl ?_
  refine r_iconst (v := 4) dX4_init_81 (by decide) ?_
  refine r_newa1' (N := 4) dX4_init_82 ak_1 hfr (by decide) (by decide) (by decide) (by omega) (by omega) (by omega) h (fun γ61 τ62 q64 gr63 tn65 h => ?_)
  refine q_putFR (e9 := (1, 0)) dX4_init_84 fd_X4_43 rfl (fun C T N q9 => by cases q9; rfl) (Or.inr ⟨_, rfl⟩) (gr63 _ _ (gr57 _ _ (gr51 _ _ (gr45 _ _ (gr39 _ _ (gr33 _ _ (gr27 _ _ (gr21 _ _ (gr15 _ _ (gr9 _ _ (gr3 _ _ t0))))))))))) rfl tn65 h (fun τ66 h => ?_)
  refine r_aload_n 0 dX4_init_87 rfl ?_
  refine r_bipush (v := 12) dX4_init_88 (by decide) ?_
  refine r_newa1' (N := 12) dX4_init_90 ak_1 hfr (by decide) (by decide) (by decide) (by omega) (by omega) (by omega) h (fun γ67 τ68 q70 gr69 tn71 h => ?_)
  refine q_putFR (e9 := (1, 0)) dX4_init_92 fd_X4_46 rfl (fun C T N q9 => by cases q9; rfl) (Or.inr ⟨_, rfl⟩) (gr69 _ _ (gr63 _ _ (gr57 _ _ (gr51 _ _ (gr45 _ _ (gr39 _ _ (gr33 _ _ (gr27 _ _ (gr21 _ _ (gr15 _ _ (gr9 _ _ (gr3 _ _ t0)))))))))))) rfl tn71 h (fun τ72 h => ?_)
  refine r_aload_n 0 dX4_init_95 rfl ?_
  refine r_new' 5 rfl dX4_init_96 nw_X4_49 hfr (by omega) (by omega) (by omega) h (fun γ73 τ74 q76 gr75 tn77 h => ?_)
  refine r_dup dX4_init_99 rfl ?_
  obtain ⟨γ78, τ79, eγ78, h⟩ := bdC_some h
  refine q_cIN 4 24 [] (g := γ78) (t := τ79) dX4_init_100 ci_X4_51 rfl rfl (Nat.le_of_ble_eq_true rfl) (by omega) (by omega) (by omega) (kX2_init (d - 1) (by omega) hfr (by omega) γ67.1 tn77 (γ78, τ79) eγ78) (fun q81 gr80 => ?_)
  refine q_putFR (e9 := (0, 2)) dX4_init_103 fd_X4_52 rfl (fun C T N q9 => by cases q9; rfl) (Or.inl ⟨_, rfl⟩) (gr80 _ _ (gr75 _ _ (gr69 _ _ (gr63 _ _ (gr57 _ _ (gr51 _ _ (gr45 _ _ (gr39 _ _ (gr33 _ _ (gr27 _ _ (gr21 _ _ (gr15 _ _ (gr9 _ _ (gr3 _ _ t0)))))))))))))) rfl (gr80 _ _ tn77) h (fun τ82 h => ?_)
  refine r_aload_n 0 dX4_init_106 rfl ?_
  refine r_iconst (v := 2) dX4_init_107 (by decide) ?_
  refine q_putI dX4_init_108 fd_X4_56 (gr80 _ _ (gr75 _ _ (gr69 _ _ (gr63 _ _ (gr57 _ _ (gr51 _ _ (gr45 _ _ (gr39 _ _ (gr33 _ _ (gr27 _ _ (gr21 _ _ (gr15 _ _ (gr9 _ _ (gr3 _ _ t0)))))))))))))) h (fun τ83 h => ?_)
  refine r_aload_n 0 dX4_init_111 rfl ?_
  refine r_bipush (v := 50) dX4_init_112 (by decide) ?_
  refine q_putI dX4_init_114 fd_X4_60 (gr80 _ _ (gr75 _ _ (gr69 _ _ (gr63 _ _ (gr57 _ _ (gr51 _ _ (gr45 _ _ (gr39 _ _ (gr33 _ _ (gr27 _ _ (gr21 _ _ (gr15 _ _ (gr9 _ _ (gr3 _ _ t0)))))))))))))) h (fun τ84 h => ?_)
  obtain rfl := Option.some.inj h
  exact r_return dX4_init_117 rfl ⟨rfl, rfl, rfl, by (try dsimp only); omega, fun e9 b9 q9 => (gr80 _ _ (gr75 _ _ (gr69 _ _ (gr63 _ _ (gr57 _ _ (gr51 _ _ (gr45 _ _ (gr39 _ _ (gr33 _ _ (gr27 _ _ (gr21 _ _ (gr15 _ _ (gr9 _ _ (gr3 _ _ q9))))))))))))))⟩ (by omega) (by omega)
def fX5_init (Γ : ly) (σ : mm) (x0 : Nat) (x1 : Nat) (x2 : Nat) : Option (ly × mm) :=
  wR σ x0 0 x1 fun τ1 =>
  wR τ1 x0 1 x2 fun τ2 =>
  some (Γ, τ2)
set_option maxHeartbeats 4000000 in
theorem kX5_init {l : Launch} {G : gg} {Γ : ly} {σ : mm} (d : Nat) (hdd : 1 ≤ d) (hfr : G.1.2.2 = true) (hL : G.1.1 + Γ.1 + 0 ≤ G.1.2.1 + 64) (x0 : Nat) (x1 : Nat) (x2 : Nat) (t0 : tyOK Γ (0, 5) x0) (t1 : tyOK Γ (0, 8) x1) (t2 : tyOK Γ (0, 4) x2) (r : ly × mm) (h : fX5_init Γ σ x0 x1 x2 = some r) : CT l G yX5_init cX5_init 3 none d 0 0 [.ref (G.2.1 x0), .ref (G.2.1 x1), .ref (G.2.1 x2)] Γ σ (fun v Γ' σ' => v = none ∧ Γ' = r.1 ∧ σ' = r.2 ∧ Γ'.1 = Γ.1 + 0 ∧ ∀ e b, tyOK Γ e b → tyOK Γ' e b) := by
  refine CT.ofWP (by decide) (Nat.le_of_ble_eq_true rfl) ?_
  show WP l G yX5_init cX5_init 3 none d 0 0 (fun v Γ' σ' => v = none ∧ Γ' = r.1 ∧ σ' = r.2 ∧ Γ'.1 = Γ.1 + 0 ∧ ∀ e b, tyOK Γ e b → tyOK Γ' e b) 0 0 0 [(0, .ref (G.2.1 x0)), (1, .ref (G.2.1 x1)), (2, .ref (G.2.1 x2))] [] Γ σ
  unfold fX5_init at h
  refine r_aload_n 0 dX5_init_0 rfl ?_
  refine r_objInit dX5_init_1 oi_X5_3 oi_i oi_c (by omega) (Nat.le_of_ble_eq_true rfl) ?_
  refine r_aload_n 0 dX5_init_4 rfl ?_
  refine r_aload_n 1 dX5_init_5 rfl ?_
  refine q_putFR (e9 := (0, 8)) dX5_init_6 fd_X5_9 rfl (fun C T N q9 => by cases q9; rfl) (Or.inl ⟨_, rfl⟩) t0 rfl t1 h (fun τ1 h => ?_)
  refine r_aload_n 0 dX5_init_9 rfl ?_
  refine r_aload_n 2 dX5_init_10 rfl ?_
  refine q_putFR (e9 := (0, 4)) dX5_init_11 fd_X5_15 rfl (fun C T N q9 => by cases q9; rfl) (Or.inl ⟨_, rfl⟩) t0 rfl t2 h (fun τ2 h => ?_)
  obtain rfl := Option.some.inj h
  exact r_return dX5_init_14 rfl ⟨rfl, rfl, rfl, by (try dsimp only); omega, fun e9 b9 q9 => q9⟩ (by omega) (by omega)
def fX6_init (Γ : ly) (σ : mm) (x0 : Nat) (x1 : Nat) (x2 : Nat) : Option (ly × mm) :=
  nwC Γ σ (1, 40) fun γ1 τ2 =>
  wR τ2 x0 2 Γ.1 fun τ6 =>
  nwC γ1 τ6 (1, 40) fun γ7 τ8 =>
  wR τ8 x0 3 γ1.1 fun τ12 =>
  nwC γ7 τ12 (1, 40) fun γ13 τ14 =>
  wR τ14 x0 4 γ7.1 fun τ18 =>
  wR τ18 x0 0 x1 fun τ19 =>
  wR τ19 x0 1 x2 fun τ20 =>
  some (γ13, τ20)
set_option maxHeartbeats 4000000 in
theorem kX6_init {l : Launch} {G : gg} {Γ : ly} {σ : mm} (d : Nat) (hdd : 1 ≤ d) (hfr : G.1.2.2 = true) (hL : G.1.1 + Γ.1 + 3 ≤ G.1.2.1 + 64) (x0 : Nat) (x1 : Nat) (x2 : Nat) (t0 : tyOK Γ (0, 6) x0) (t1 : tyOK Γ (0, 8) x1) (t2 : tyOK Γ (0, 4) x2) (r : ly × mm) (h : fX6_init Γ σ x0 x1 x2 = some r) : CT l G yX6_init cX6_init 3 none d 3 120 [.ref (G.2.1 x0), .ref (G.2.1 x1), .ref (G.2.1 x2)] Γ σ (fun v Γ' σ' => v = none ∧ Γ' = r.1 ∧ σ' = r.2 ∧ Γ'.1 = Γ.1 + 3 ∧ ∀ e b, tyOK Γ e b → tyOK Γ' e b) := by
  refine CT.ofWP (by decide) (Nat.le_of_ble_eq_true rfl) ?_
  show WP l G yX6_init cX6_init 3 none d 3 120 (fun v Γ' σ' => v = none ∧ Γ' = r.1 ∧ σ' = r.2 ∧ Γ'.1 = Γ.1 + 3 ∧ ∀ e b, tyOK Γ e b → tyOK Γ' e b) 0 0 0 [(0, .ref (G.2.1 x0)), (1, .ref (G.2.1 x1)), (2, .ref (G.2.1 x2))] [] Γ σ
  unfold fX6_init at h
  refine r_aload_n 0 dX6_init_0 rfl ?_
  refine r_objInit dX6_init_1 oi_X6_3 oi_i oi_c (by omega) (Nat.le_of_ble_eq_true rfl) ?_
  refine r_aload_n 0 dX6_init_4 rfl ?_
  refine r_bipush (v := 40) dX6_init_5 (by decide) ?_
  refine r_newa1' (N := 40) dX6_init_7 ak_1 hfr (by decide) (by decide) (by decide) (by omega) (by omega) (by omega) h (fun γ1 τ2 q4 gr3 tn5 h => ?_)
  refine q_putFR (e9 := (1, 0)) dX6_init_9 fd_X6_11 rfl (fun C T N q9 => by cases q9; rfl) (Or.inr ⟨_, rfl⟩) (gr3 _ _ t0) rfl tn5 h (fun τ6 h => ?_)
  refine r_aload_n 0 dX6_init_12 rfl ?_
  refine r_bipush (v := 40) dX6_init_13 (by decide) ?_
  refine r_newa1' (N := 40) dX6_init_15 ak_1 hfr (by decide) (by decide) (by decide) (by omega) (by omega) (by omega) h (fun γ7 τ8 q10 gr9 tn11 h => ?_)
  refine q_putFR (e9 := (1, 0)) dX6_init_17 fd_X6_15 rfl (fun C T N q9 => by cases q9; rfl) (Or.inr ⟨_, rfl⟩) (gr9 _ _ (gr3 _ _ t0)) rfl tn11 h (fun τ12 h => ?_)
  refine r_aload_n 0 dX6_init_20 rfl ?_
  refine r_bipush (v := 40) dX6_init_21 (by decide) ?_
  refine r_newa1' (N := 40) dX6_init_23 ak_1 hfr (by decide) (by decide) (by decide) (by omega) (by omega) (by omega) h (fun γ13 τ14 q16 gr15 tn17 h => ?_)
  refine q_putFR (e9 := (1, 0)) dX6_init_25 fd_X6_18 rfl (fun C T N q9 => by cases q9; rfl) (Or.inr ⟨_, rfl⟩) (gr15 _ _ (gr9 _ _ (gr3 _ _ t0))) rfl tn17 h (fun τ18 h => ?_)
  refine r_aload_n 0 dX6_init_28 rfl ?_
  refine r_aload_n 1 dX6_init_29 rfl ?_
  refine q_putFR (e9 := (0, 8)) dX6_init_30 fd_X6_21 rfl (fun C T N q9 => by cases q9; rfl) (Or.inl ⟨_, rfl⟩) (gr15 _ _ (gr9 _ _ (gr3 _ _ t0))) rfl (gr15 _ _ (gr9 _ _ (gr3 _ _ t1))) h (fun τ19 h => ?_)
  refine r_aload_n 0 dX6_init_33 rfl ?_
  refine r_aload_n 2 dX6_init_34 rfl ?_
  refine q_putFR (e9 := (0, 4)) dX6_init_35 fd_X6_25 rfl (fun C T N q9 => by cases q9; rfl) (Or.inl ⟨_, rfl⟩) (gr15 _ _ (gr9 _ _ (gr3 _ _ t0))) rfl (gr15 _ _ (gr9 _ _ (gr3 _ _ t2))) h (fun τ20 h => ?_)
  obtain rfl := Option.some.inj h
  exact r_return dX6_init_38 rfl ⟨rfl, rfl, rfl, by (try dsimp only); omega, fun e9 b9 q9 => (gr15 _ _ (gr9 _ _ (gr3 _ _ q9)))⟩ (by omega) (by omega)
def fX7_init_L31 (S : Nat → Nat × Nat) (x0 : Nat) : (Int32 × mm) → Option ((Int32 × mm) ⊕ mm) :=
  un2 fun x1 σ =>
  if (40 : Int32) ≤ x1 then
      some (.inr σ)
    else
      gR σ x0 0 fun r1 =>
      stR S σ r1 x1 0 fun τ2 =>
      nm (x1 + (1 : Int32)) fun v3 =>
      some (.inl (v3, τ2))
def fX7_init (Γ : ly) (σ : mm) (x0 : Nat) : Option (ly × mm) :=
  nwC Γ σ (8, 40) fun γ1 τ2 =>
  wR τ2 x0 0 Γ.1 fun τ6 =>
  nwC γ1 τ6 (1, 40) fun γ7 τ8 =>
  wR τ8 x0 1 γ1.1 fun τ12 =>
  nwC γ7 τ12 (1, 40) fun γ13 τ14 =>
  wR τ14 x0 2 γ7.1 fun τ18 =>
  bd0 (loopN (fX7_init_L31 γ13.2 x0) 1000 ((0 : Int32), τ18)) (fun τ20 => some (γ13, τ20))
theorem sX7_init_L31 {l : Launch} {G : gg} {Γ : ly} {d : Nat} {Q : Option Value → ly → mm → Prop} (hdd : 1 ≤ d) {mc ms k n : Nat} (x0 : Nat) (t0 : tyOK Γ (0, 7) x0) {K : mm → Prop} (kx0 : ∀ (σ9 : mm), K σ9 → WP l G yX7_init cX7_init 2 (none) d mc ms Q k n 52 [] [] Γ σ9) : ∀ (N : Nat) (s : (Int32 × mm)) (b : mm), loopN (fX7_init_L31 Γ.2 x0) N s = some b → K b → WP l G yX7_init cX7_init 2 (none) d mc ms Q k n 31 [(0, .ref (G.2.1 x0)), (1, .int s.1)] [] Γ s.2 := by
  refine r_loop (f := fX7_init_L31 Γ.2 x0) (hlv := fun s => [(0, .ref (G.2.1 x0)), (1, .int s.1)]) (hsg := fun s => s.2) ?_
  rintro ⟨x1, σ⟩ r h hb hx
  have hb : ∀ (x1 : Int32) (σ : mm), r = .inl (x1, σ) → WP l G yX7_init cX7_init 2 (none) d mc ms Q k n 31 [(0, .ref (G.2.1 x0)), (1, .int x1)] [] Γ σ := fun x1 σ e => hb (x1, σ) e
  have hx0 : ∀ (σ9 : mm), r = .inr σ9 → WP l G yX7_init cX7_init 2 (none) d mc ms Q k n 52 [] [] Γ σ9 := fun σ9 e => kx0 σ9 (hx _ e)
  unfold fX7_init_L31 at h
  have h := un2_some h
  show WP l G yX7_init cX7_init 2 (none) d mc ms Q k n 31 [(0, .ref (G.2.1 x0)), (1, .int x1)] [] Γ σ
  refine r_iload_n 1 dX7_init_31 rfl ?_
  refine r_bipush (v := 40) dX7_init_32 (by decide) ?_
  refine r_icmp_ge 52 dX7_init_34 (by decide) h (fun _ h => ?_) (fun _ h => ?_)
  · obtain rfl := Option.some.inj h
    refine r_pick [] rfl ?_
    exact hx0 _ rfl
  · refine r_aload_n 0 dX7_init_37 rfl ?_
    refine q_getR (e9 := (8, 0)) dX7_init_38 fd_X7_13 t0 rfl h (fun r1 tr1 h => ?_)
    refine r_iload_n 1 dX7_init_41 rfl ?_
    refine r_word 0 dX7_init_42 fw_X7_24 (by decide) ?_
    refine q_aast8 dX7_init_45 tr1 (tyW (Γ := Γ) (i := 0) (by decide)) h (fun τ2 h => ?_)
    refine q_iinc (v := 1) 1 (fun v3 => [(1, .int v3), (0, .ref (G.2.1 x0))]) dX7_init_46 rfl (by decide) (by decide) (fun _ => rfl) h (fun v3 h => ?_)
    refine r_goto 31 dX7_init_49 (by decide) ?_
    obtain rfl := Option.some.inj h
    refine r_pick [1, 0] rfl ?_
    exact hb _ _ rfl
set_option maxHeartbeats 4000000 in
theorem kX7_init {l : Launch} {G : gg} {Γ : ly} {σ : mm} (d : Nat) (hdd : 1 ≤ d) (hfr : G.1.2.2 = true) (hL : G.1.1 + Γ.1 + 3 ≤ G.1.2.1 + 64) (x0 : Nat) (t0 : tyOK Γ (0, 7) x0) (r : ly × mm) (h : fX7_init Γ σ x0 = some r) : CT l G yX7_init cX7_init 2 none d 3 120 [.ref (G.2.1 x0)] Γ σ (fun v Γ' σ' => v = none ∧ Γ' = r.1 ∧ σ' = r.2 ∧ Γ'.1 = Γ.1 + 3 ∧ ∀ e b, tyOK Γ e b → tyOK Γ' e b) := by
  refine CT.ofWP (by decide) (Nat.le_of_ble_eq_true rfl) ?_
  show WP l G yX7_init cX7_init 2 none d 3 120 (fun v Γ' σ' => v = none ∧ Γ' = r.1 ∧ σ' = r.2 ∧ Γ'.1 = Γ.1 + 3 ∧ ∀ e b, tyOK Γ e b → tyOK Γ' e b) 0 0 0 [(0, .ref (G.2.1 x0))] [] Γ σ
  unfold fX7_init at h
  refine r_aload_n 0 dX7_init_0 rfl ?_
  refine r_objInit dX7_init_1 oi_X7_5 oi_i oi_c (by omega) (Nat.le_of_ble_eq_true rfl) ?_
  refine r_aload_n 0 dX7_init_4 rfl ?_
  refine r_bipush (v := 40) dX7_init_5 (by decide) ?_
  refine r_newq8' (N := 40) dX7_init_7 aq_X7_11 hfr (by decide) (by decide) (by decide) (by omega) (by omega) (by omega) h (fun γ1 τ2 q4 gr3 tn5 h => ?_)
  refine q_putFR (e9 := (8, 0)) dX7_init_10 fd_X7_13 rfl (fun C T N q9 => by cases q9; rfl) (Or.inr ⟨_, rfl⟩) (gr3 _ _ t0) rfl tn5 h (fun τ6 h => ?_)
  refine r_aload_n 0 dX7_init_13 rfl ?_
  refine r_bipush (v := 40) dX7_init_14 (by decide) ?_
  refine r_newa1' (N := 40) dX7_init_16 ak_1 hfr (by decide) (by decide) (by decide) (by omega) (by omega) (by omega) h (fun γ7 τ8 q10 gr9 tn11 h => ?_)
  refine q_putFR (e9 := (1, 0)) dX7_init_18 fd_X7_17 rfl (fun C T N q9 => by cases q9; rfl) (Or.inr ⟨_, rfl⟩) (gr9 _ _ (gr3 _ _ t0)) rfl tn11 h (fun τ12 h => ?_)
  refine r_aload_n 0 dX7_init_21 rfl ?_
  refine r_bipush (v := 40) dX7_init_22 (by decide) ?_
  refine r_newa1' (N := 40) dX7_init_24 ak_1 hfr (by decide) (by decide) (by decide) (by omega) (by omega) (by omega) h (fun γ13 τ14 q16 gr15 tn17 h => ?_)
  refine q_putFR (e9 := (1, 0)) dX7_init_26 fd_X7_21 rfl (fun C T N q9 => by cases q9; rfl) (Or.inr ⟨_, rfl⟩) (gr15 _ _ (gr9 _ _ (gr3 _ _ t0))) rfl tn17 h (fun τ18 h => ?_)
  refine r_iconst (v := 0) dX7_init_29 (by decide) ?_
  refine r_istore_n (lv' := [(1, .int (0 : Int32)), (0, .ref (G.2.1 x0))]) dX7_init_30 (by decide) rfl ?_
  obtain ⟨b19, eb19, h⟩ := bd0_some h
  refine r_pick [1, 0] rfl ?_
  refine sX7_init_L31 hdd x0 (gr15 _ _ (gr9 _ _ (gr3 _ _ t0))) (K := fun b => b = b19) ?_ 1000 ((0 : Int32), τ18) b19 eb19 rfl
  rintro τ20 rfl
  obtain rfl := Option.some.inj h
  exact r_return dX7_init_52 rfl ⟨rfl, rfl, rfl, by (try dsimp only); omega, fun e9 b9 q9 => (gr15 _ _ (gr9 _ _ (gr3 _ _ q9)))⟩ (by omega) (by omega)
def fX8_init (Γ : ly) (σ : mm) (x0 : Nat) : Option (ly × mm) :=
  nwC Γ σ (2, 940) fun γ1 τ2 =>
  wR τ2 x0 0 Γ.1 fun τ6 =>
  wR τ6 x0 8 0 fun τ7 =>
  some (γ1, τ7)
set_option maxHeartbeats 4000000 in
theorem kX8_init {l : Launch} {G : gg} {Γ : ly} {σ : mm} (d : Nat) (hdd : 1 ≤ d) (hfr : G.1.2.2 = true) (hL : G.1.1 + Γ.1 + 1 ≤ G.1.2.1 + 64) (x0 : Nat) (t0 : tyOK Γ (0, 8) x0) (r : ly × mm) (h : fX8_init Γ σ x0 = some r) : CT l G yX8_init cX8_init 1 none d 1 940 [.ref (G.2.1 x0)] Γ σ (fun v Γ' σ' => v = none ∧ Γ' = r.1 ∧ σ' = r.2 ∧ Γ'.1 = Γ.1 + 1 ∧ ∀ e b, tyOK Γ e b → tyOK Γ' e b) := by
  refine CT.ofWP (by decide) (Nat.le_of_ble_eq_true rfl) ?_
  show WP l G yX8_init cX8_init 1 none d 1 940 (fun v Γ' σ' => v = none ∧ Γ' = r.1 ∧ σ' = r.2 ∧ Γ'.1 = Γ.1 + 1 ∧ ∀ e b, tyOK Γ e b → tyOK Γ' e b) 0 0 0 [(0, .ref (G.2.1 x0))] [] Γ σ
  unfold fX8_init at h
  refine r_aload_n 0 dX8_init_0 rfl ?_
  refine r_objInit dX8_init_1 oi_X8_1 oi_i oi_c (by omega) (Nat.le_of_ble_eq_true rfl) ?_
  refine r_aload_n 0 dX8_init_4 rfl ?_
  refine r_sipush (v := 940) dX8_init_5 (by decide) ?_
  refine r_newa2' (N := 940) dX8_init_8 ak_2 hfr (by decide) (by decide) (by decide) (by omega) (by omega) (by omega) h (fun γ1 τ2 q4 gr3 tn5 h => ?_)
  refine q_putFR (e9 := (2, 0)) dX8_init_10 fd_X8_9 rfl (fun C T N q9 => by cases q9; rfl) (Or.inr ⟨_, rfl⟩) (gr3 _ _ t0) rfl tn5 h (fun τ6 h => ?_)
  refine r_aload_n 0 dX8_init_13 rfl ?_
  refine r_word 0 dX8_init_14 fw_X8_13 (by decide) ?_
  refine q_putR (e9 := (100, 0)) dX8_init_17 fd_X8_19 ⟨_, rfl⟩ (gr3 _ _ t0) rfl (tyW (Γ := Γ) (i := 0) (by decide)) h (fun τ7 h => ?_)
  obtain rfl := Option.some.inj h
  exact r_return dX8_init_20 rfl ⟨rfl, rfl, rfl, by (try dsimp only); omega, fun e9 b9 q9 => (gr3 _ _ q9)⟩ (by omega) (by omega)
def fX9_init (Γ : ly) (σ : mm) (x0 : Nat) (x1 : Nat) : Option (ly × mm) :=
  nwC Γ σ (5, 8) fun γ1 τ2 =>
  wR τ2 x0 0 Γ.1 fun τ6 =>
  gR τ6 x0 0 fun r7 =>
  nwC γ1 τ6 (0, 3) fun γ8 τ9 =>
  bdC (fX3_init γ8 τ9 γ1.1 x1) fun γ13 τ14 =>
  stR γ13.2 τ14 r7 (0 : Int32) γ1.1 fun τ17 =>
  gR τ17 x0 0 fun r18 =>
  nwC γ13 τ17 (0, 3) fun γ19 τ20 =>
  bdC (fX3_init γ19 τ20 γ13.1 x1) fun γ24 τ25 =>
  stR γ24.2 τ25 r18 (1 : Int32) γ13.1 fun τ28 =>
  gR τ28 x0 0 fun r29 =>
  nwC γ24 τ28 (0, 3) fun γ30 τ31 =>
  bdC (fX3_init γ30 τ31 γ24.1 x1) fun γ35 τ36 =>
  stR γ35.2 τ36 r29 (2 : Int32) γ24.1 fun τ39 =>
  gR τ39 x0 0 fun r40 =>
  nwC γ35 τ39 (0, 3) fun γ41 τ42 =>
  bdC (fX3_init γ41 τ42 γ35.1 x1) fun γ46 τ47 =>
  stR γ46.2 τ47 r40 (3 : Int32) γ35.1 fun τ50 =>
  gR τ50 x0 0 fun r51 =>
  nwC γ46 τ50 (0, 3) fun γ52 τ53 =>
  bdC (fX3_init γ52 τ53 γ46.1 x1) fun γ57 τ58 =>
  stR γ57.2 τ58 r51 (4 : Int32) γ46.1 fun τ61 =>
  gR τ61 x0 0 fun r62 =>
  nwC γ57 τ61 (0, 3) fun γ63 τ64 =>
  bdC (fX3_init γ63 τ64 γ57.1 x1) fun γ68 τ69 =>
  stR γ68.2 τ69 r62 (5 : Int32) γ57.1 fun τ72 =>
  gR τ72 x0 0 fun r73 =>
  nwC γ68 τ72 (0, 3) fun γ74 τ75 =>
  bdC (fX3_init γ74 τ75 γ68.1 x1) fun γ79 τ80 =>
  stR γ79.2 τ80 r73 (6 : Int32) γ68.1 fun τ83 =>
  gR τ83 x0 0 fun r84 =>
  nwC γ79 τ83 (0, 3) fun γ85 τ86 =>
  bdC (fX3_init γ85 τ86 γ79.1 x1) fun γ90 τ91 =>
  stR γ90.2 τ91 r84 (7 : Int32) γ79.1 fun τ94 =>
  some (γ90, τ94)
set_option maxHeartbeats 4000000 in
theorem kX9_init {l : Launch} {G : gg} {Γ : ly} {σ : mm} (d : Nat) (hdd : 2 ≤ d) (hfr : G.1.2.2 = true) (hL : G.1.1 + Γ.1 + 65 ≤ G.1.2.1 + 64) (x0 : Nat) (x1 : Nat) (t0 : tyOK Γ (0, 9) x0) (t1 : tyOK Γ (0, 4) x1) (r : ly × mm) (h : fX9_init Γ σ x0 x1 = some r) : CT l G yX9_init cX9_init 3 none d 65 384 [.ref (G.2.1 x0), .ref (G.2.1 x1)] Γ σ (fun v Γ' σ' => v = none ∧ Γ' = r.1 ∧ σ' = r.2 ∧ Γ'.1 = Γ.1 + 65 ∧ ∀ e b, tyOK Γ e b → tyOK Γ' e b) := by
  refine CT.ofWP (by decide) (Nat.le_of_ble_eq_true rfl) ?_
  show WP l G yX9_init cX9_init 3 none d 65 384 (fun v Γ' σ' => v = none ∧ Γ' = r.1 ∧ σ' = r.2 ∧ Γ'.1 = Γ.1 + 65 ∧ ∀ e b, tyOK Γ e b → tyOK Γ' e b) 0 0 0 [(0, .ref (G.2.1 x0)), (1, .ref (G.2.1 x1))] [] Γ σ
  unfold fX9_init at h
  refine r_aload_n 0 dX9_init_0 rfl ?_
  refine r_objInit dX9_init_1 oi_X9_3 oi_i oi_c (by omega) (Nat.le_of_ble_eq_true rfl) ?_
  refine r_aload_n 0 dX9_init_4 rfl ?_
  refine r_bipush (v := 8) dX9_init_5 (by decide) ?_
  refine r_newq5' (N := 8) dX9_init_7 aq_X9_11 hfr (by decide) (by decide) (by decide) (by omega) (by omega) (by omega) h (fun γ1 τ2 q4 gr3 tn5 h => ?_)
  refine q_putFR (e9 := (5, 0)) dX9_init_10 fd_X9_13 rfl (fun C T N q9 => by cases q9; rfl) (Or.inr ⟨_, rfl⟩) (gr3 _ _ t0) rfl tn5 h (fun τ6 h => ?_)
  refine r_iconst (v := 0) dX9_init_13 (by decide) ?_
  refine r_istore_n (lv' := [(2, .int (0 : Int32)), (0, .ref (G.2.1 x0)), (1, .ref (G.2.1 x1))]) dX9_init_14 (by decide) rfl ?_
  refine r_iload_n 0 dX9_init_15 rfl ?_
  refine r_bipush (v := 8) dX9_init_16 (by decide) ?_
  refine r_geF dX9_init_18 (by decide) ?_
  refine r_aload_n 1 dX9_init_21 rfl ?_
  refine q_getR (e9 := (5, 0)) dX9_init_22 fd_X9_13 (gr3 _ _ t0) rfl h (fun r7 tr7 h => ?_)
  refine r_iload_n 0 dX9_init_25 rfl ?_
  refine r_new' 11 rfl dX9_init_26 nw_X9_11 hfr (by omega) (by omega) (by omega) h (fun γ8 τ9 q11 gr10 tn12 h => ?_)
  refine r_dup dX9_init_29 rfl ?_
  refine r_aload_n 2 dX9_init_30 rfl ?_
  obtain ⟨γ13, τ14, eγ13, h⟩ := bdC_some h
  refine q_cI 7 36 [.ref (G.2.1 x1)] (g := γ13) (t := τ14) dX9_init_31 ci_X9_17 rfl rfl (Nat.le_of_ble_eq_true rfl) (by omega) (by omega) (by omega) (kX3_init (d - 1) (by omega) hfr (by omega) γ1.1 x1 tn12 (gr10 _ _ (gr3 _ _ t1)) (γ13, τ14) eγ13) (fun q16 gr15 => ?_)
  refine q_aast5 dX9_init_34 (gr15 _ _ (gr10 _ _ tr7)) (gr15 _ _ tn12) h (fun τ17 h => ?_)
  refine r_iincL (x := 0) (v := 1) (w9 := 1) (lv' := [(2, .int (1 : Int32)), (0, .ref (G.2.1 x0)), (1, .ref (G.2.1 x1))]) 0 dX9_init_35 rfl (by decide) (by decide) (by decide) rfl ?_
  refine r_goto 15 dX9_init_38 (by decide) ?_
  refine r_iload_n 0 dX9_init_15 rfl ?_
  refine r_bipush (v := 8) dX9_init_16 (by decide) ?_
  refine r_geF dX9_init_18 (by decide) ?_
  refine r_aload_n 1 dX9_init_21 rfl ?_
  refine q_getR (e9 := (5, 0)) dX9_init_22 fd_X9_13 (gr15 _ _ (gr10 _ _ (gr3 _ _ t0))) rfl h (fun r18 tr18 h => ?_)
  refine r_iload_n 0 dX9_init_25 rfl ?_
  refine r_new' 11 rfl dX9_init_26 nw_X9_11 hfr (by omega) (by omega) (by omega) h (fun γ19 τ20 q22 gr21 tn23 h => ?_)
  refine r_dup dX9_init_29 rfl ?_
  refine r_aload_n 2 dX9_init_30 rfl ?_
  obtain ⟨γ24, τ25, eγ24, h⟩ := bdC_some h
  refine q_cI 7 36 [.ref (G.2.1 x1)] (g := γ24) (t := τ25) dX9_init_31 ci_X9_17 rfl rfl (Nat.le_of_ble_eq_true rfl) (by omega) (by omega) (by omega) (kX3_init (d - 1) (by omega) hfr (by omega) γ13.1 x1 tn23 (gr21 _ _ (gr15 _ _ (gr10 _ _ (gr3 _ _ t1)))) (γ24, τ25) eγ24) (fun q27 gr26 => ?_)
  refine q_aast5 dX9_init_34 (gr26 _ _ (gr21 _ _ tr18)) (gr26 _ _ tn23) h (fun τ28 h => ?_)
  refine r_iincL (x := 1) (v := 1) (w9 := 2) (lv' := [(2, .int (2 : Int32)), (0, .ref (G.2.1 x0)), (1, .ref (G.2.1 x1))]) 0 dX9_init_35 rfl (by decide) (by decide) (by decide) rfl ?_
  refine r_goto 15 dX9_init_38 (by decide) ?_
  refine r_iload_n 0 dX9_init_15 rfl ?_
  refine r_bipush (v := 8) dX9_init_16 (by decide) ?_
  refine r_geF dX9_init_18 (by decide) ?_
  refine r_aload_n 1 dX9_init_21 rfl ?_
  refine q_getR (e9 := (5, 0)) dX9_init_22 fd_X9_13 (gr26 _ _ (gr21 _ _ (gr15 _ _ (gr10 _ _ (gr3 _ _ t0))))) rfl h (fun r29 tr29 h => ?_)
  refine r_iload_n 0 dX9_init_25 rfl ?_
  refine r_new' 11 rfl dX9_init_26 nw_X9_11 hfr (by omega) (by omega) (by omega) h (fun γ30 τ31 q33 gr32 tn34 h => ?_)
  refine r_dup dX9_init_29 rfl ?_
  refine r_aload_n 2 dX9_init_30 rfl ?_
  obtain ⟨γ35, τ36, eγ35, h⟩ := bdC_some h
  refine q_cI 7 36 [.ref (G.2.1 x1)] (g := γ35) (t := τ36) dX9_init_31 ci_X9_17 rfl rfl (Nat.le_of_ble_eq_true rfl) (by omega) (by omega) (by omega) (kX3_init (d - 1) (by omega) hfr (by omega) γ24.1 x1 tn34 (gr32 _ _ (gr26 _ _ (gr21 _ _ (gr15 _ _ (gr10 _ _ (gr3 _ _ t1)))))) (γ35, τ36) eγ35) (fun q38 gr37 => ?_)
  refine q_aast5 dX9_init_34 (gr37 _ _ (gr32 _ _ tr29)) (gr37 _ _ tn34) h (fun τ39 h => ?_)
  refine r_iincL (x := 2) (v := 1) (w9 := 3) (lv' := [(2, .int (3 : Int32)), (0, .ref (G.2.1 x0)), (1, .ref (G.2.1 x1))]) 0 dX9_init_35 rfl (by decide) (by decide) (by decide) rfl ?_
  refine r_goto 15 dX9_init_38 (by decide) ?_
  refine r_iload_n 0 dX9_init_15 rfl ?_
  refine r_bipush (v := 8) dX9_init_16 (by decide) ?_
  refine r_geF dX9_init_18 (by decide) ?_
  refine r_aload_n 1 dX9_init_21 rfl ?_
  refine q_getR (e9 := (5, 0)) dX9_init_22 fd_X9_13 (gr37 _ _ (gr32 _ _ (gr26 _ _ (gr21 _ _ (gr15 _ _ (gr10 _ _ (gr3 _ _ t0))))))) rfl h (fun r40 tr40 h => ?_)
  refine r_iload_n 0 dX9_init_25 rfl ?_
  refine r_new' 11 rfl dX9_init_26 nw_X9_11 hfr (by omega) (by omega) (by omega) h (fun γ41 τ42 q44 gr43 tn45 h => ?_)
  refine r_dup dX9_init_29 rfl ?_
  refine r_aload_n 2 dX9_init_30 rfl ?_
  obtain ⟨γ46, τ47, eγ46, h⟩ := bdC_some h
  refine q_cI 7 36 [.ref (G.2.1 x1)] (g := γ46) (t := τ47) dX9_init_31 ci_X9_17 rfl rfl (Nat.le_of_ble_eq_true rfl) (by omega) (by omega) (by omega) (kX3_init (d - 1) (by omega) hfr (by omega) γ35.1 x1 tn45 (gr43 _ _ (gr37 _ _ (gr32 _ _ (gr26 _ _ (gr21 _ _ (gr15 _ _ (gr10 _ _ (gr3 _ _ t1)))))))) (γ46, τ47) eγ46) (fun q49 gr48 => ?_)
  refine q_aast5 dX9_init_34 (gr48 _ _ (gr43 _ _ tr40)) (gr48 _ _ tn45) h (fun τ50 h => ?_)
  refine r_iincL (x := 3) (v := 1) (w9 := 4) (lv' := [(2, .int (4 : Int32)), (0, .ref (G.2.1 x0)), (1, .ref (G.2.1 x1))]) 0 dX9_init_35 rfl (by decide) (by decide) (by decide) rfl ?_
  refine r_goto 15 dX9_init_38 (by decide) ?_
  refine r_iload_n 0 dX9_init_15 rfl ?_
  refine r_bipush (v := 8) dX9_init_16 (by decide) ?_
  refine r_geF dX9_init_18 (by decide) ?_
  refine r_aload_n 1 dX9_init_21 rfl ?_
  refine q_getR (e9 := (5, 0)) dX9_init_22 fd_X9_13 (gr48 _ _ (gr43 _ _ (gr37 _ _ (gr32 _ _ (gr26 _ _ (gr21 _ _ (gr15 _ _ (gr10 _ _ (gr3 _ _ t0))))))))) rfl h (fun r51 tr51 h => ?_)
  refine r_iload_n 0 dX9_init_25 rfl ?_
  refine r_new' 11 rfl dX9_init_26 nw_X9_11 hfr (by omega) (by omega) (by omega) h (fun γ52 τ53 q55 gr54 tn56 h => ?_)
  refine r_dup dX9_init_29 rfl ?_
  refine r_aload_n 2 dX9_init_30 rfl ?_
  obtain ⟨γ57, τ58, eγ57, h⟩ := bdC_some h
  refine q_cI 7 36 [.ref (G.2.1 x1)] (g := γ57) (t := τ58) dX9_init_31 ci_X9_17 rfl rfl (Nat.le_of_ble_eq_true rfl) (by omega) (by omega) (by omega) (kX3_init (d - 1) (by omega) hfr (by omega) γ46.1 x1 tn56 (gr54 _ _ (gr48 _ _ (gr43 _ _ (gr37 _ _ (gr32 _ _ (gr26 _ _ (gr21 _ _ (gr15 _ _ (gr10 _ _ (gr3 _ _ t1)))))))))) (γ57, τ58) eγ57) (fun q60 gr59 => ?_)
  refine q_aast5 dX9_init_34 (gr59 _ _ (gr54 _ _ tr51)) (gr59 _ _ tn56) h (fun τ61 h => ?_)
  refine r_iincL (x := 4) (v := 1) (w9 := 5) (lv' := [(2, .int (5 : Int32)), (0, .ref (G.2.1 x0)), (1, .ref (G.2.1 x1))]) 0 dX9_init_35 rfl (by decide) (by decide) (by decide) rfl ?_
  refine r_goto 15 dX9_init_38 (by decide) ?_
  refine r_iload_n 0 dX9_init_15 rfl ?_
  refine r_bipush (v := 8) dX9_init_16 (by decide) ?_
  refine r_geF dX9_init_18 (by decide) ?_
  refine r_aload_n 1 dX9_init_21 rfl ?_
  refine q_getR (e9 := (5, 0)) dX9_init_22 fd_X9_13 (gr59 _ _ (gr54 _ _ (gr48 _ _ (gr43 _ _ (gr37 _ _ (gr32 _ _ (gr26 _ _ (gr21 _ _ (gr15 _ _ (gr10 _ _ (gr3 _ _ t0))))))))))) rfl h (fun r62 tr62 h => ?_)
  refine r_iload_n 0 dX9_init_25 rfl ?_
  refine r_new' 11 rfl dX9_init_26 nw_X9_11 hfr (by omega) (by omega) (by omega) h (fun γ63 τ64 q66 gr65 tn67 h => ?_)
  refine r_dup dX9_init_29 rfl ?_
  refine r_aload_n 2 dX9_init_30 rfl ?_
  obtain ⟨γ68, τ69, eγ68, h⟩ := bdC_some h
  refine q_cI 7 36 [.ref (G.2.1 x1)] (g := γ68) (t := τ69) dX9_init_31 ci_X9_17 rfl rfl (Nat.le_of_ble_eq_true rfl) (by omega) (by omega) (by omega) (kX3_init (d - 1) (by omega) hfr (by omega) γ57.1 x1 tn67 (gr65 _ _ (gr59 _ _ (gr54 _ _ (gr48 _ _ (gr43 _ _ (gr37 _ _ (gr32 _ _ (gr26 _ _ (gr21 _ _ (gr15 _ _ (gr10 _ _ (gr3 _ _ t1)))))))))))) (γ68, τ69) eγ68) (fun q71 gr70 => ?_)
  refine q_aast5 dX9_init_34 (gr70 _ _ (gr65 _ _ tr62)) (gr70 _ _ tn67) h (fun τ72 h => ?_)
  refine r_iincL (x := 5) (v := 1) (w9 := 6) (lv' := [(2, .int (6 : Int32)), (0, .ref (G.2.1 x0)), (1, .ref (G.2.1 x1))]) 0 dX9_init_35 rfl (by decide) (by decide) (by decide) rfl ?_
  refine r_goto 15 dX9_init_38 (by decide) ?_
  refine r_iload_n 0 dX9_init_15 rfl ?_
  refine r_bipush (v := 8) dX9_init_16 (by decide) ?_
  refine r_geF dX9_init_18 (by decide) ?_
  refine r_aload_n 1 dX9_init_21 rfl ?_
  refine q_getR (e9 := (5, 0)) dX9_init_22 fd_X9_13 (gr70 _ _ (gr65 _ _ (gr59 _ _ (gr54 _ _ (gr48 _ _ (gr43 _ _ (gr37 _ _ (gr32 _ _ (gr26 _ _ (gr21 _ _ (gr15 _ _ (gr10 _ _ (gr3 _ _ t0))))))))))))) rfl h (fun r73 tr73 h => ?_)
  refine r_iload_n 0 dX9_init_25 rfl ?_
  refine r_new' 11 rfl dX9_init_26 nw_X9_11 hfr (by omega) (by omega) (by omega) h (fun γ74 τ75 q77 gr76 tn78 h => ?_)
  refine r_dup dX9_init_29 rfl ?_
  refine r_aload_n 2 dX9_init_30 rfl ?_
  obtain ⟨γ79, τ80, eγ79, h⟩ := bdC_some h
  refine q_cI 7 36 [.ref (G.2.1 x1)] (g := γ79) (t := τ80) dX9_init_31 ci_X9_17 rfl rfl (Nat.le_of_ble_eq_true rfl) (by omega) (by omega) (by omega) (kX3_init (d - 1) (by omega) hfr (by omega) γ68.1 x1 tn78 (gr76 _ _ (gr70 _ _ (gr65 _ _ (gr59 _ _ (gr54 _ _ (gr48 _ _ (gr43 _ _ (gr37 _ _ (gr32 _ _ (gr26 _ _ (gr21 _ _ (gr15 _ _ (gr10 _ _ (gr3 _ _ t1)))))))))))))) (γ79, τ80) eγ79) (fun q82 gr81 => ?_)
  refine q_aast5 dX9_init_34 (gr81 _ _ (gr76 _ _ tr73)) (gr81 _ _ tn78) h (fun τ83 h => ?_)
  refine r_iincL (x := 6) (v := 1) (w9 := 7) (lv' := [(2, .int (7 : Int32)), (0, .ref (G.2.1 x0)), (1, .ref (G.2.1 x1))]) 0 dX9_init_35 rfl (by decide) (by decide) (by decide) rfl ?_
  refine r_goto 15 dX9_init_38 (by decide) ?_
  refine r_iload_n 0 dX9_init_15 rfl ?_
  refine r_bipush (v := 8) dX9_init_16 (by decide) ?_
  refine r_geF dX9_init_18 (by decide) ?_
  refine r_aload_n 1 dX9_init_21 rfl ?_
  refine q_getR (e9 := (5, 0)) dX9_init_22 fd_X9_13 (gr81 _ _ (gr76 _ _ (gr70 _ _ (gr65 _ _ (gr59 _ _ (gr54 _ _ (gr48 _ _ (gr43 _ _ (gr37 _ _ (gr32 _ _ (gr26 _ _ (gr21 _ _ (gr15 _ _ (gr10 _ _ (gr3 _ _ t0))))))))))))))) rfl h (fun r84 tr84 h => ?_)
  refine r_iload_n 0 dX9_init_25 rfl ?_
  refine r_new' 11 rfl dX9_init_26 nw_X9_11 hfr (by omega) (by omega) (by omega) h (fun γ85 τ86 q88 gr87 tn89 h => ?_)
  refine r_dup dX9_init_29 rfl ?_
  refine r_aload_n 2 dX9_init_30 rfl ?_
  obtain ⟨γ90, τ91, eγ90, h⟩ := bdC_some h
  refine q_cI 7 36 [.ref (G.2.1 x1)] (g := γ90) (t := τ91) dX9_init_31 ci_X9_17 rfl rfl (Nat.le_of_ble_eq_true rfl) (by omega) (by omega) (by omega) (kX3_init (d - 1) (by omega) hfr (by omega) γ79.1 x1 tn89 (gr87 _ _ (gr81 _ _ (gr76 _ _ (gr70 _ _ (gr65 _ _ (gr59 _ _ (gr54 _ _ (gr48 _ _ (gr43 _ _ (gr37 _ _ (gr32 _ _ (gr26 _ _ (gr21 _ _ (gr15 _ _ (gr10 _ _ (gr3 _ _ t1)))))))))))))))) (γ90, τ91) eγ90) (fun q93 gr92 => ?_)
  refine q_aast5 dX9_init_34 (gr92 _ _ (gr87 _ _ tr84)) (gr92 _ _ tn89) h (fun τ94 h => ?_)
  refine r_iincL (x := 7) (v := 1) (w9 := 8) (lv' := [(2, .int (8 : Int32)), (0, .ref (G.2.1 x0)), (1, .ref (G.2.1 x1))]) 0 dX9_init_35 rfl (by decide) (by decide) (by decide) rfl ?_
  refine r_goto 15 dX9_init_38 (by decide) ?_
  refine r_iload_n 0 dX9_init_15 rfl ?_
  refine r_bipush (v := 8) dX9_init_16 (by decide) ?_
  refine r_geT 41 dX9_init_18 (by decide) (by decide) ?_
  obtain rfl := Option.some.inj h
  exact r_return dX9_init_41 rfl ⟨rfl, rfl, rfl, by (try dsimp only); omega, fun e9 b9 q9 => (gr92 _ _ (gr87 _ _ (gr81 _ _ (gr76 _ _ (gr70 _ _ (gr65 _ _ (gr59 _ _ (gr54 _ _ (gr48 _ _ (gr43 _ _ (gr37 _ _ (gr32 _ _ (gr26 _ _ (gr21 _ _ (gr15 _ _ (gr10 _ _ (gr3 _ _ q9)))))))))))))))))⟩ (by omega) (by omega)
def fX10_init (Γ : ly) (σ : mm) (x0 : Nat) (x1 : Nat) : Option (ly × mm) :=
  nwC Γ σ (1, 540) fun γ1 τ2 =>
  wR τ2 x0 1 Γ.1 fun τ6 =>
  nwC γ1 τ6 (1, 60) fun γ7 τ8 =>
  wR τ8 x0 2 γ1.1 fun τ12 =>
  nwC γ7 τ12 (1, 60) fun γ13 τ14 =>
  wR τ14 x0 3 γ7.1 fun τ18 =>
  wR τ18 x0 0 x1 fun τ19 =>
  some (γ13, τ19)
set_option maxHeartbeats 4000000 in
theorem kX10_init {l : Launch} {G : gg} {Γ : ly} {σ : mm} (d : Nat) (hdd : 1 ≤ d) (hfr : G.1.2.2 = true) (hL : G.1.1 + Γ.1 + 3 ≤ G.1.2.1 + 64) (x0 : Nat) (x1 : Nat) (t0 : tyOK Γ (0, 10) x0) (t1 : tyOK Γ (0, 1) x1) (r : ly × mm) (h : fX10_init Γ σ x0 x1 = some r) : CT l G yX10_init cX10_init 2 none d 3 660 [.ref (G.2.1 x0), .ref (G.2.1 x1)] Γ σ (fun v Γ' σ' => v = none ∧ Γ' = r.1 ∧ σ' = r.2 ∧ Γ'.1 = Γ.1 + 3 ∧ ∀ e b, tyOK Γ e b → tyOK Γ' e b) := by
  refine CT.ofWP (by decide) (Nat.le_of_ble_eq_true rfl) ?_
  show WP l G yX10_init cX10_init 2 none d 3 660 (fun v Γ' σ' => v = none ∧ Γ' = r.1 ∧ σ' = r.2 ∧ Γ'.1 = Γ.1 + 3 ∧ ∀ e b, tyOK Γ e b → tyOK Γ' e b) 0 0 0 [(0, .ref (G.2.1 x0)), (1, .ref (G.2.1 x1))] [] Γ σ
  unfold fX10_init at h
  refine r_aload_n 0 dX10_init_0 rfl ?_
  refine r_objInit dX10_init_1 oi_X10_3 oi_i oi_c (by omega) (Nat.le_of_ble_eq_true rfl) ?_
  refine r_aload_n 0 dX10_init_4 rfl ?_
  refine r_sipush (v := 540) dX10_init_5 (by decide) ?_
  refine r_newa1' (N := 540) dX10_init_8 ak_1 hfr (by decide) (by decide) (by decide) (by omega) (by omega) (by omega) h (fun γ1 τ2 q4 gr3 tn5 h => ?_)
  refine q_putFR (e9 := (1, 0)) dX10_init_10 fd_X10_9 rfl (fun C T N q9 => by cases q9; rfl) (Or.inr ⟨_, rfl⟩) (gr3 _ _ t0) rfl tn5 h (fun τ6 h => ?_)
  refine r_aload_n 0 dX10_init_13 rfl ?_
  refine r_bipush (v := 60) dX10_init_14 (by decide) ?_
  refine r_newa1' (N := 60) dX10_init_16 ak_1 hfr (by decide) (by decide) (by decide) (by omega) (by omega) (by omega) h (fun γ7 τ8 q10 gr9 tn11 h => ?_)
  refine q_putFR (e9 := (1, 0)) dX10_init_18 fd_X10_15 rfl (fun C T N q9 => by cases q9; rfl) (Or.inr ⟨_, rfl⟩) (gr9 _ _ (gr3 _ _ t0)) rfl tn11 h (fun τ12 h => ?_)
  refine r_aload_n 0 dX10_init_21 rfl ?_
  refine r_bipush (v := 60) dX10_init_22 (by decide) ?_
  refine r_newa1' (N := 60) dX10_init_24 ak_1 hfr (by decide) (by decide) (by decide) (by omega) (by omega) (by omega) h (fun γ13 τ14 q16 gr15 tn17 h => ?_)
  refine q_putFR (e9 := (1, 0)) dX10_init_26 fd_X10_18 rfl (fun C T N q9 => by cases q9; rfl) (Or.inr ⟨_, rfl⟩) (gr15 _ _ (gr9 _ _ (gr3 _ _ t0))) rfl tn17 h (fun τ18 h => ?_)
  refine r_aload_n 0 dX10_init_29 rfl ?_
  refine r_aload_n 1 dX10_init_30 rfl ?_
  refine q_putFR (e9 := (0, 1)) dX10_init_31 fd_X10_21 rfl (fun C T N q9 => by cases q9; rfl) (Or.inl ⟨_, rfl⟩) (gr15 _ _ (gr9 _ _ (gr3 _ _ t0))) rfl (gr15 _ _ (gr9 _ _ (gr3 _ _ t1))) h (fun τ19 h => ?_)
  obtain rfl := Option.some.inj h
  exact r_return dX10_init_34 rfl ⟨rfl, rfl, rfl, by (try dsimp only); omega, fun e9 b9 q9 => (gr15 _ _ (gr9 _ _ (gr3 _ _ q9)))⟩ (by omega) (by omega)
