/-! the helpers: thrown and returned -/
theorem h_thr {l : Launch} {G : gg} {Γ : ly} {σ : mm} {y y2 : MethodName} {cH cc2 : ByteArray} {ix qo : Nat} {ov : Int64} {x1 x2 : Int32} (hy : y.cls = RL) (hp : plainName y.cls = true) (D : HD cH ix) (C : CVd RL ix y2 cc2 3 (some .int) 2) (h2 : y2.cls = RX12) (t0 : tyOK Γ (0, 11) 64) (hqo : ¬ g_own G qo)
    (hM : vx_Met l y2 (Cond.code y2 cc2 3 (some .int) :: gw) (rmOf 2046 1 6) (va_Pc [.ref (G.2.1 64), .int x1, .int x2] (fun U => Rep G Γ σ U.heap ∧ KK G U U.heap ∧ KT U)) (XQ G) (XG G Γ σ) 1 6 (g_own G)) :
    vx_Met l y (Cond.codeWith y cH 5 (some .int) hhL :: gw) (rmOf 2047 1 6) (va_Pc [.ref (G.2.1 64), .int x1, .int x2, .ref qo] (HPre G Γ σ qo ov)) (HQ G Γ σ qo 1 ov) (HX G) 1 6 (HA G qo) := by
  obtain ⟨d0, d1, d2, d3, d4, d5, d8, d9, d10, d13, d15, d16, d17, d18⟩ := D
  refine vx_ofWH (cc := cH) (maxL := 5) (ret := some .int) (hh := hhL) hp rfl ?_
  intro p e s m args below meth c s₁ B hml hv
  obtain ⟨rfl, hR, hK, hT, hq⟩ := hv
  have hle := lv_entry [Value.ref (G.2.1 64), .int x1, .int x2, .ref qo] (n := 5) (Nat.le_of_ble_eq_true rfl)
  have hts := atoms_spec (ws := Cond.codeWith y cH 5 (some .int) hhL :: gw) B.pre
  have htab := vx_table (x := y) B (hts _ List.mem_cons_self)
  have hown : s.vm.findClass RL = some m.cls := by rw [← hy]; exact findClass_of_methodNamed B.named
  have S0 : va_S (HA G qo) s.heap s.heap [] := va_S.rf
  rw [lg_entry_eq]
  generalize (lg_sl [Value.ref (G.2.1 64), .int x1, .int x2, .ref qo] ++ List.replicate (5 - (lg_sl [Value.ref (G.2.1 64), .int x1, .int x2, .ref qo]).length) Slot.unset).toArray = ls at hle ⊢
  refine lv_aload_n B.exec B.bytes d0 rfl (lv_at hle 3 rfl) ?_
  refine lv_iconst (v := 0) B.exec B.bytes d1 (by decide) ?_
  refine lv_aload_n B.exec B.bytes d2 rfl (lv_at hle 0 rfl) ?_
  refine lv_iload_n B.exec B.bytes d3 rfl (lv_at hle 1 rfl) ?_
  refine lv_iload_n B.exec B.bytes d4 rfl (lv_at hle 2 rfl) ?_
  have hr := vx_runV (p := p) (l := l) (e := e) (R := rmOf 2047 1 6) (below := below) (meth := meth) (H := s.heap) (locs := []) (cells := 0) (slots := 0) (Ts := Cond.codeWith y cH 5 (some .int) hhL :: gw) (C := y2.cls) (As := [.int x1, .int x2]) (rest := [.int 0, .ref qo]) (g := F0 m 5 ls [.int x2, .int x1, .ref (G.2.1 64), .int 0, .ref qo]) ⟨B.exec, B.bytes, hml, hown, hts⟩ hM (cwV 2 hts (gi_gw (hv_ws C)) rfl rfl rfl ⟨rfl, C.2.2.2.2.2.2⟩ ⟨by show 2046 + 1 ≤ 2047; decide, by show 8 + (3 + 11) + (41 * 2046 + 32) ≤ 41 * 2047 + 32; decide⟩) ⟨px_blind, by
      have := va_recv hK.1 (one_P (hR.obj t0)) (q0 := 0) (ci := 11) rfl rfl
      rw [h2]
      exact this, fun U hU hW => ⟨rfl, by rw [hU]; exact hR, by rw [hU]; exact KK.warm hW hK, KT.warm hW hT⟩⟩ rfl rfl hle.1 rfl (lv_room (Nat.le_of_ble_eq_true rfl)) d5 ⟨by decide, by decide⟩
  refine vx_calli hr S0 (fun q _ h => Or.inl h) (fun q h => Or.inl h) (fun q _ h => Or.inl h) (fun E ce q9 u t H1 locs1 e1 _ _ hbx z o S1 hce hcv hcl => ?_) (fun r u t H1 locs1 _ _ hpp _ _ _ _ => hpp.elim)
  obtain ⟨rfl, hR1⟩ := hbx
  rw [e1] at hR1
  refine vx_catch (own := RL) (name := NSE) (E := NSE) hown [] _ [] (show c.exceptionTable.toList = [] ++ _ :: [] from htab) (fun z hz => nomatch hz) (by decide) (by decide) (hts _ (List.mem_cons_of_mem _ cl_13)) (va_Nw.use rfl (hT (.castable NSE NSE) (by simp [KTl]))) hce hcv hcl ?_
  refine lv_astore (lv' := [(4, .ref q9), (0, .ref (G.2.1 64)), (1, .int x1), (2, .int x2), (3, .ref qo)]) B.exec B.bytes d13 hle (by decide) rfl (fun ls1 hl1 => ?_)
  refine lv_iconst (v := 1) B.exec B.bytes d15 (by decide) ?_
  have hq1 : HC G qo ov H1 := (o qo (Array.getElem?_eq_some_iff.mp hq).1 hqo).trans hq
  exact vx_ret (W.iret B.exec B.bytes B.returns (fun t2 ht hW => ⟨⟨1, (), rfl, rfl, ⟨by rw [ht]; exact hR1, by rw [ht]; exact hq1⟩⟩, S1.F ht⟩) S1.2.2 d16 B.notSynchronized)
theorem h_ret {l : Launch} {G : gg} {Γ : ly} {σ : mm} {y y2 : MethodName} {cH cc2 : ByteArray} {ix qo : Nat} {ov : Int64} {x1 x2 r : Int32} (hy : y.cls = RL) (hp : plainName y.cls = true) (D : HD cH ix) (C : CVd RL ix y2 cc2 3 (some .int) 2) (h2 : y2.cls = RX12) (t0 : tyOK Γ (0, 11) 64) (hqo : ¬ g_own G qo) (hf : G.1.2.2 = false)
    (hM : CT l G y2 cc2 3 (some .int) 2046 0 0 [.ref (G.2.1 64), .int x1, .int x2] Γ σ (PP (some (.int r)) Γ σ)) :
    vx_Met l y (Cond.codeWith y cH 5 (some .int) hhL :: gw) (rmOf 2047 1 6) (va_Pc [.ref (G.2.1 64), .int x1, .int x2, .ref qo] (HPre G Γ σ qo ov)) (HQ G Γ σ qo 0 r.toInt64) (HX G) 1 6 (HA G qo) := by
  obtain ⟨d0, d1, d2, d3, d4, d5, d8, d9, d10, d13, d15, d16, d17, d18⟩ := D
  refine vx_ofWH (cc := cH) (maxL := 5) (ret := some .int) (hh := hhL) hp rfl ?_
  intro p e s m args below meth c s₁ B hml hv
  obtain ⟨rfl, hR, hK, hT, hq⟩ := hv
  have hle := lv_entry [Value.ref (G.2.1 64), .int x1, .int x2, .ref qo] (n := 5) (Nat.le_of_ble_eq_true rfl)
  have hts := atoms_spec (ws := Cond.codeWith y cH 5 (some .int) hhL :: gw) B.pre
  have hown : s.vm.findClass RL = some m.cls := by rw [← hy]; exact findClass_of_methodNamed B.named
  have S0 : va_S (HA G qo) s.heap s.heap [] := va_S.rf
  rw [lg_entry_eq]
  generalize (lg_sl [Value.ref (G.2.1 64), .int x1, .int x2, .ref qo] ++ List.replicate (5 - (lg_sl [Value.ref (G.2.1 64), .int x1, .int x2, .ref qo]).length) Slot.unset).toArray = ls at hle ⊢
  refine lv_aload_n B.exec B.bytes d0 rfl (lv_at hle 3 rfl) ?_
  refine lv_iconst (v := 0) B.exec B.bytes d1 (by decide) ?_
  refine lv_aload_n B.exec B.bytes d2 rfl (lv_at hle 0 rfl) ?_
  refine lv_iload_n B.exec B.bytes d3 rfl (lv_at hle 1 rfl) ?_
  refine lv_iload_n B.exec B.bytes d4 rfl (lv_at hle 2 rfl) ?_
  have hr := va_runV (p := p) (l := l) (e := e) (R := rmOf 2047 1 6) (below := below) (meth := meth) (H := s.heap) (locs := []) (cells := 0) (slots := 0) (Ts := Cond.codeWith y cH 5 (some .int) hhL :: gw) (C := y2.cls) (As := [.int x1, .int x2]) (rest := [.int 0, .ref qo]) (g := F0 m 5 ls [.int x2, .int x1, .ref (G.2.1 64), .int 0, .ref qo]) ⟨B.exec, B.bytes, hml, hown, hts⟩ hM (cwV 2 hts (gi_gw (hv_ws C)) rfl rfl rfl ⟨rfl, C.2.2.2.2.2.2⟩ ⟨by show 2046 + 1 ≤ 2047; decide, by show 8 + (3 + 11) + (41 * 2046 + 32) ≤ 41 * 2047 + 32; decide⟩) ⟨pc_blind, by
      have := va_recv hK.1 (one_P (hR.obj t0)) (q0 := 0) (ci := 11) rfl rfl
      rw [h2]
      exact this, fun U hU hW => ⟨rfl, by rw [hU]; exact hR, by rw [hU]; exact KK.warm hW hK⟩⟩ rfl rfl hle.1 rfl (lv_room (Nat.le_of_ble_eq_true rfl)) d5 ⟨by decide, by decide⟩
  intro T hT9 X
  obtain ⟨v, st₀, t, T', L2, h0, X', hL, e1, e2, ⟨⟨v2, Γ', σ', hv, hp9, hb'⟩, hz, hk'⟩, st'⟩ := hr T hT9 X
  cases hv
  obtain ⟨g1, g2, g3⟩ := hp9
  subst g1
  subst g2
  subst g3
  rw [h0] at hz hk'
  rw [← e1] at hb' hz hk'
  have S1 : va_S (HA G qo) s.heap T'.heap ([] ++ L2) := ⟨hz, fun q h1 h2 => hk' q h1 (fun w => h2 (Or.inl w)), fun q hq => Or.inl (hL q (by simpa using hq))⟩
  have hq1 : HC G qo ov T'.heap := (hk' qo (Array.getElem?_eq_some_iff.mp hq).1 hqo).trans hq
  have hW : W p l e (rmOf 2047 1 6) s m [Value.ref (G.2.1 64), .int x1, .int x2, .ref qo].toArray below meth c T'.heap ([] ++ L2) 0 0 (vx_MQ below (HQ G Γ' σ' qo 0 r.toInt64) (HX G) [Value.ref (G.2.1 64), .int x1, .int x2, .ref qo].toArray s 1 6 (HA G qo)) (F0 m 8 ls [.int r, .int 0, .ref qo]) := by
    refine lv_i2l (v := r.toInt64) B.exec B.bytes d8 rfl ?_
    refine W.last B.exec B.bytes hq1 ((hK.1.2 4 _ rfl).1 1 (fun j => .long ov)) (fun q => by cases q) (by show ¬ ((0 : Int32) < 0 ∨ (arrV _ _ _).slots.size ≤ _); rw [arrV_size]; exact (by decide : ¬ ((0 : Int32) < 0 ∨ 1 ≤ Int32.toNatClampNeg 0))) rfl rfl d9 fun H1 e9 z oq => ?_
    have hR1 : Rep G Γ' σ' H1 := hb'.off hf hK.2.1 (fun q hq9 w => oq q (fun w2 => hqo (w2 ▸ w)))
    have hq2 : HC G qo r.toInt64 H1 := by
      show H1[qo]? = some (vp_cell _ _)
      rw [e9, vp_cell_l, vp_cell_l, arrV_store]
      first | done | (congr 1; done) | (congr 1; exact arrV1 rfl) | exact congrArg some (arrV1 rfl)
    have S2 := S1.put (k := (0 : Int32).toNatClampNeg) z oq (Or.inr rfl)
    refine lv_goto (tgt := 17) B.exec B.bytes d10 (by show ((10 : Nat) : Int) + 7 = ((17 : Nat) : Int); decide) ?_
    refine lv_iconst (v := 0) B.exec B.bytes d17 (by decide) ?_
    exact vx_ret (W.widen (by decide) (by decide) (W.iret B.exec B.bytes B.returns (fun t2 ht hW => ⟨⟨0, (), rfl, rfl, ⟨by rw [ht]; exact hR1, by rw [ht]; exact hq2⟩⟩, S2.F ht⟩) S2.2.2 d18 B.notSynchronized))
  obtain ⟨t2, a1, b1⟩ := hW T' rfl X'
  exact ⟨t2, st' t2 a1, b1⟩
theorem hx_person {l : Launch} {G : gg} {Γ : ly} {σ : mm} {qo : Nat} {ov : Int64} {b : Nat} {x1 x2 : Int32} (hl : l.stackTraces = false) (hf : G.1.2.2 = false) (t0 : tyOK Γ (0, 11) 64) (hqo : ¬ g_own G qo) (hb : σ.2.2 64 1 = some b) (h : ThrX (fX4_hasPerson Γ.2 σ b x1) 6 x2) :
    vx_Met l yL_person (Cond.codeWith yL_person method_3_code 5 (some .int) hhL :: gw) (rmOf 2047 1 6) (va_Pc [.ref (G.2.1 64), .int x1, .int x2, .ref qo] (HPre G Γ σ qo ov)) (HQ G Γ σ qo 1 ov) (HX G) 1 6 (HA G qo) :=
  h_thr rfl (by decide) hd_person cvH_7 rfl t0 hqo (kx_person hl hf 2046 (by decide) 64 b x1 x2 t0 hb h)
theorem hr_person {l : Launch} {G : gg} {Γ : ly} {σ : mm} {qo : Nat} {ov : Int64} {x1 x2 r : Int32} (hf : G.1.2.2 = false) (t0 : tyOK Γ (0, 11) 64) (hqo : ¬ g_own G qo) (h : fX12_person Γ.2 σ 64 x1 x2 = some r) :
    vx_Met l yL_person (Cond.codeWith yL_person method_3_code 5 (some .int) hhL :: gw) (rmOf 2047 1 6) (va_Pc [.ref (G.2.1 64), .int x1, .int x2, .ref qo] (HPre G Γ σ qo ov)) (HQ G Γ σ qo 0 r.toInt64) (HX G) 1 6 (HA G qo) :=
  h_ret rfl (by decide) hd_person cvH_7 rfl t0 hqo hf (kX12_person 2046 (by decide) 64 x1 x2 t0 r h)
theorem hx_glass {l : Launch} {G : gg} {Γ : ly} {σ : mm} {qo : Nat} {ov : Int64} {b : Nat} {x1 x2 : Int32} (hl : l.stackTraces = false) (hf : G.1.2.2 = false) (t0 : tyOK Γ (0, 11) 64) (hqo : ¬ g_own G qo) (hb : σ.2.2 64 1 = some b) (h : ThrX (fX4_hasGlass Γ.2 σ b x1) 10 x2) :
    vx_Met l yL_glass (Cond.codeWith yL_glass method_4_code 5 (some .int) hhL :: gw) (rmOf 2047 1 6) (va_Pc [.ref (G.2.1 64), .int x1, .int x2, .ref qo] (HPre G Γ σ qo ov)) (HQ G Γ σ qo 1 ov) (HX G) 1 6 (HA G qo) :=
  h_thr rfl (by decide) hd_glass cvH_15 rfl t0 hqo (kx_glass hl hf 2046 (by decide) 64 b x1 x2 t0 hb h)
theorem hr_glass {l : Launch} {G : gg} {Γ : ly} {σ : mm} {qo : Nat} {ov : Int64} {x1 x2 r : Int32} (hf : G.1.2.2 = false) (t0 : tyOK Γ (0, 11) 64) (hqo : ¬ g_own G qo) (h : fX12_glass Γ.2 σ 64 x1 x2 = some r) :
    vx_Met l yL_glass (Cond.codeWith yL_glass method_4_code 5 (some .int) hhL :: gw) (rmOf 2047 1 6) (va_Pc [.ref (G.2.1 64), .int x1, .int x2, .ref qo] (HPre G Γ σ qo ov)) (HQ G Γ σ qo 0 r.toInt64) (HX G) 1 6 (HA G qo) :=
  h_ret rfl (by decide) hd_glass cvH_15 rfl t0 hqo hf (kX12_glass 2046 (by decide) 64 x1 x2 t0 r h)
