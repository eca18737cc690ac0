/-! the law's case 5 -/
theorem gsL_glass : GoodIn lw_tbl (va_wsS RL 50 yL_glass (Cond.codeWith yL_glass method_4_code 5 (some .int) hhL :: gw)) := by
  have hg : ∀ w ∈ gw, w ∈ lw_tbl ∧ ((w.onTables && w.keeps) = true ∨ ∃ ty, w = .arrayClass ty) := fun w hw => ⟨(List.mem_filter.mp hw).1, good_of_word (gw_good w hw)⟩
  intro w hw
  simp only [va_wsS, List.cons_append, List.nil_append, List.mem_cons] at hw
  rcases hw with rfl | rfl | rfl | rfl | h
  · exact hg _ (by decide +kernel)
  · exact hg _ (by decide +kernel)
  · exact hg _ (by decide +kernel)
  · exact hg _ cw_glass
  · exact hg _ h
theorem law_glass_tail {p : Program} {l : Launch} {e : Env} {s : State} {m : MethodId} {b : Nat} {below : List Frame} {meth : Method} {c : Code} {H : Heap} {locs : List Loc} {k n : Nat} {Z : State → Prop} {ls : Array Slot} {L : Nat} {xs : Nat → Int32} {GC GM : gg} {ΓC ΓM : ly} {σC σM σM' : mm} {qo i : Nat} {NB : Heap → Prop} {r r1 : Int32} {ov1 : Int64} (hnb : NBs GC GM qo NB) (hx : p.tables.exec = Jvm.exec) (hb : c.code = code) (hml : c.maxLocals = 7) (hown : s.vm.findClass RL = some m.cls) (hts : ∀ w ∈ lw_tbl, w.before #[Value.ref b] s = true) (hX : va_X b L xs s s.heap) (hbl : b < s.heap.size) (hL3 : L ≤ 3072) (F : LF GC GM (GC.2.2.2.1 4) qo s) (tm : tyOK ΓM (0, 12) 64) (h6 : i + 6 ≤ L) (hk : k ≤ 601024) (hn : n ≤ 7293034)
    (e2 : fX13_glass ΓM.2 σM 64 (xs (i + 1)) (xs (i + 2)) = some (r, σM')) (hthr : σM'.1 64 0 = r1) (hov : r1 = 0 → ov1 = r.toInt64)
    (R1 : Rep GC ΓC σC H) (R2 : Rep GM ΓM σM H) (ho : HC GC qo ov1 H) (hS : va_S (fun q => s.heap.size ≤ q) s.heap H locs) (hnB : NB H) (hl : lv_has ls 7 [(0, .ref b), (1, .ref (GC.2.1 64)), (2, .ref (GM.2.1 64)), (3, .ref qo), (4, .int (nI i))])
    (tl : ∀ (H1 : Heap) (locs1 : List Loc) (ls1 : Array Slot), LSt GC GM ΓC σC ΓM σM' (GC.2.2.2.1 4) qo NB s H1 locs1 → lv_has ls1 7 [(0, .ref b), (1, .ref (GC.2.1 64)), (2, .ref (GM.2.1 64)), (3, .ref qo), (4, .int (nI i))] → W p l e room_1 s m #[Value.ref b] below meth c H1 locs1 k n Z (F0 m 1492 ls1 [])) : W p l e room_1 s m #[Value.ref b] below meth c H locs k n Z (F0 m 433 ls [.int r1]) := by
  obtain ⟨k1, k2, f1, f2, b1, b2, b3, b4, b5, -⟩ := F
  refine lv_istore (x := r1) (lv' := [(5, .int r1), (0, .ref b), (1, .ref (GC.2.1 64)), (2, .ref (GM.2.1 64)), (3, .ref qo), (4, .int (nI i))]) hx hb dL_433 hl (by decide) rfl (fun ls1 hl1 => ?_)
  refine lv_aload_n hx hb dL_435 rfl (lv_at hl1 3 rfl) ?_
  refine L_arg 1 1 5 hx hb hX hbl hL3 hS hl1 rfl rfl (by omega) (by decide) dL_436 dL_437 dL_439 dL_440 dL_441 ?_
  refine L_arg 2 1 5 hx hb hX hbl hL3 hS hl1 rfl rfl (by omega) (by decide) dL_442 dL_443 dL_445 dL_446 dL_447 ?_
  refine L_call (G := GM) (Γ := ΓM) (σ := σM) (σ2 := σM') (a := 64) (ci := 12) (r := r) [.int (xs (i + 1)), .int (xs (i + 2))] hx hb hml hown hts dL_448 cvL_52 rfl rfl tm rfl rfl (Nat.le_of_ble_eq_true rfl) R2 k2 b2 hS hl1.1 hk hn (kX13_glass 2047 (by decide) 64 (xs (i + 1)) (xs (i + 2)) tm (r, σM') e2) (fun H2 locs2 R2 z2 o2 hS => ?_)
  have R1 := R1.off (H1 := H2) f1 k1.2.1 (fun q9 hq (w : g_own GC q9) => o2 q9 hq (fun (w2 : g_own GM q9) => by have := w.2.1; have := w2.1; omega))
  have hnB := hnb H H2 hnB z2 (fun q9 h1 _ h2 _ => o2 q9 h1 h2)
  have ho : HC GC qo ov1 H2 := (o2 qo (Array.getElem?_eq_some_iff.mp ho).1 (fun (w2 : g_own GM qo) => by have := w2.2.1; omega)).trans ho
  refine lv_istore (x := r) (lv' := [(6, .int r), (5, .int r1), (0, .ref b), (1, .ref (GC.2.1 64)), (2, .ref (GM.2.1 64)), (3, .ref qo), (4, .int (nI i))]) hx hb dL_451 hl1 (by decide) rfl (fun ls2 hl2 => ?_)
  refine lv_aload_n hx hb dL_453 rfl (lv_at hl2 4 rfl) ?_
  refine L_call (G := GM) (Γ := ΓM) (σ := σM') (σ2 := σM') (a := 64) (ci := 12) (r := σM'.1 64 0) [] hx hb hml hown hts dL_454 cvL_47 rfl rfl tm rfl rfl (Nat.le_of_ble_eq_true rfl) R2 k2 b2 hS hl2.1 hk hn (kX13_thrown 2047 (by decide) 64 tm (σM'.1 64 0) rfl) (fun H3 locs3 R2 z3 o3 hS => ?_)
  have R1 := R1.off (H1 := H3) f1 k1.2.1 (fun q9 hq (w : g_own GC q9) => o3 q9 hq (fun (w2 : g_own GM q9) => by have := w.2.1; have := w2.1; omega))
  have hnB := hnb H2 H3 hnB z3 (fun q9 h1 _ h2 _ => o3 q9 h1 h2)
  have ho : HC GC qo ov1 H3 := (o3 qo (Array.getElem?_eq_some_iff.mp ho).1 (fun (w2 : g_own GM qo) => by have := w2.2.1; omega)).trans ho
  have fin : W p l e room_1 s m #[Value.ref b] below meth c H3 locs3 k n Z (F0 m 481 ls2 []) := by
    refine lv_goto (tgt := 1492) hx hb dL_481 (by decide) ?_
    exact tl H3 locs3 ls2 ⟨R1, R2, ⟨ov1, ho⟩, hS, hnB⟩ (lv_sub hl2 [2, 3, 4, 5, 6] rfl)
  refine lv_iload hx hb dL_457 (lv_at hl2 1 rfl) ?_
  refine lv_icmp_eq (tgt := 464) hx hb dL_459 (by decide) (fun _ => ?_) (fun w => absurd hthr w)
  refine lv_iload hx hb dL_464 (lv_at hl2 1 rfl) ?_
  refine lv_if_ne (tgt := 481) hx hb dL_466 (by decide) (fun _ => fin) (fun h0 => ?_)
  refine lv_aload_n hx hb dL_469 rfl (lv_at hl2 5 rfl) ?_
  refine lv_iconst (v := 0) hx hb dL_470 (by decide) ?_
  refine va_lald (D := GC.2.2.1) (cl := vwCl) (tys := tysOf GC) (ws := [(qo, .inl (GC.2.2.2.1 4, 1, .inr (.inl (fun _ => ov1))))]) hx hb k1.1 (one_P ho) 0 4 rfl rfl (vp_in_nI (n := 0) (N := 1) (by decide) (by decide)) dL_471 ?_
  refine lv_iload hx hb dL_472 (lv_at hl2 0 rfl) ?_
  refine lv_i2l (v := r.toInt64) hx hb dL_474 rfl ?_
  refine W.lcmp hx hb dL_475 ?_
  refine lv_if_eq (tgt := 481) hx hb dL_476 (by decide) (fun _ => fin) (fun w => absurd ?_ w)
  rw [hov h0]
  simp [lg_cmp]
theorem law_glass {p : Program} {l : Launch} {e : Env} {s : State} {m : MethodId} {b : Nat} {below : List Frame} {meth : Method} {c : Code} {L : Nat} {xs : Nat → Int32} {GC GM : gg} {ΓC ΓM : ly} {cJ : ClassId} {qo : Nat} {NB : Nat × (Int → Int) → Heap → Prop} (hl : l.stackTraces = false) (hnb : ∀ t, NBs GC GM qo (NB t)) (hSC : SCok ΓC.2) (hSM : SMok ΓM.2) (C0 : lw_At p s m meth c b L xs) (hL3 : L ≤ 3072) (F : LF GC GM cJ qo s) (tx : tyOK ΓC (0, 11) 64) (tm : tyOK ΓM (0, 12) 64) : CaseOK p l e s m b below meth c L xs GC GM ΓC ΓM cJ qo NB (fun _ t => SimX t) 416 := by
  obtain ⟨hx, hb, hr, hml, hown, hts, hX, hbl, hlocks, hgv⟩ := C0
  intro i k n t σC σM H locs ls Z h6 hk hn hs I hlv tl
  have hcJ : cJ = GC.2.2.2.1 4 := F.2.2.2.2.2.2.2.2.2
  subst hcJ
  obtain ⟨R1, R2, ⟨ov, ho⟩, hS, hnB⟩ := I
  obtain ⟨k1, k2, f1, f2, b1, b2, b3, b4, b5, -⟩ := id F
  have hqo : ¬ g_own GC qo := fun w => by have := w.2.1; omega
  have hq9 : s.heap.size ≤ qo := by
    have h1 := R1.1.2.1
    rw [ad_own k1.2.1 R1.2.1] at h1
    omega
  have hKT : KT s := fun w hw => va_Nw.of (KTl_on w hw) (hts w (thr_nt w hw))
  have hkeep : ∀ q, q < s.heap.size → ¬ g_own GC q → H[q]? = s.heap[q]? := fun q hq _ => hS.2.1 q hq (by omega)
  obtain ⟨r, σM', e2, hs', hcase⟩ := op_glass hSC hSM (xs (i + 1)) (xs (i + 2)) t σC σM hs
  refine lv_aload_n hx hb dL_416 rfl (lv_at hlv 1 rfl) ?_
  refine L_arg 1 0 4 hx hb hX hbl hL3 hS hlv rfl rfl (by omega) (by decide) dL_417 dL_418 dL_420 dL_421 dL_422 ?_
  refine L_arg 2 0 4 hx hb hX hbl hL3 hS hlv rfl rfl (by omega) (by decide) dL_423 dL_424 dL_426 dL_427 dL_428 ?_
  refine lv_aload_n hx hb dL_429 rfl (lv_at hlv 3 rfl) ?_
  have run : ∀ (r1 : Int32) (ov1 : Int64), vx_Met l yL_glass (Cond.codeWith yL_glass method_4_code 5 (some .int) hhL :: gw) (rmOf 2047 1 6) (va_Pc [.ref (GC.2.1 64), .int (xs (i + 1)), .int (xs (i + 2)), .ref qo] (HPre GC ΓC σC qo ov)) (HQ GC ΓC σC qo r1 ov1) (HX GC) 1 6 (HA GC qo) → σM'.1 64 0 = r1 → (r1 = 0 → ov1 = r.toInt64) → W p l e room_1 s m #[Value.ref b] below meth c H locs k n Z (F0 m 430 ls [.ref qo, .int (xs (i + 2)), .int (xs (i + 1)), .ref (GC.2.1 64)]) := by
    intro r1 ov1 hM hthr hov
    have hrun := vx_runSX (p := p) (l := l) (e := e) (R := room_1) (below := below) (meth := meth) (H := H) (locs := locs) (cells := k) (slots := n) (Ts := lw_tbl) (As := [.ref (GC.2.1 64), .int (xs (i + 1)), .int (xs (i + 2)), .ref qo]) (rest := []) (g := F0 m 430 ls [.ref qo, .int (xs (i + 2)), .int (xs (i + 1)), .ref (GC.2.1 64)]) ⟨hx, hb, hml, hown, hts⟩ hM (vx_cwSW 4 hts gsL_glass rfl rfl rfl ⟨by decide, by decide, by decide +kernel⟩ ⟨by show 2047 + 1 ≤ 2048; decide, by show 8 + (5 + 11) + (41 * 2047 + 32) ≤ 84000; decide⟩) ⟨hp_blind, fun U hU hW => ⟨rfl, by rw [hU]; exact R1, by rw [hU]; exact KK.warm hW (k1.kept hkeep), KT.warm hW hKT, by rw [hU]; exact ho⟩⟩ rfl rfl hlv.1 rfl (lv_room (Nat.le_of_ble_eq_true rfl)) dL_430 ⟨by show k + 1 ≤ 601024; omega, by show n + 6 ≤ 7293034; omega⟩
    refine vx_calli hrun hS (fun q _ h => by rcases h with w | w
                                             · exact Nat.le_trans b1 w.1
                                             · omega) (fun q h => by rcases h with w | w
                                                                     · exact Nat.le_trans b1 w.1
                                                                     · show s.heap.size ≤ q; omega) (fun q _ w => Nat.le_trans b1 w.1) (fun E ce q9 u t9 H1 locs1 _ _ w _ _ _ _ _ _ _ => w.elim) (fun r9 u t9 H1 locs1 e9 _ hp hB z o hS1 => ?_)
    obtain ⟨R1', ho1⟩ := hB
    rw [e9] at R1' ho1
    have hp9 : r9 = r1 := hp
    subst hp9
    have R2' := R2.off (H1 := H1) f2 k2.2.1 (fun q9 hq (w : g_own GM q9) => o q9 hq (fun w2 => by
      have := w.1
      have := w.2.1
      rcases w2 with w3 | w3
      · have := w3.2.1
        omega
      · omega))
    have hnB1 := hnb t H H1 hnB z (fun q9 h1 h2 _ h4 => o q9 h1 (fun w => w.elim h2 h4))
    exact law_glass_tail (hnb t) hx hb hml hown hts hX hbl hL3 F tm h6 (by omega) (by omega) e2 hthr hov R1' R2' ho1 hS1 hnB1 hlv (fun H2 locs2 ls2 I2 hl2 => W.widen (by omega) (by omega) (tl t σC σM' H2 locs2 ls2 hs' I2 hl2))
  rcases hcase with ⟨e1, ht⟩ | ⟨ht, hb1, hT⟩
  · exact run 0 r.toInt64 (hr_glass f1 tx hqo e1) ht (fun _ => rfl)
  · exact run 1 ov (hx_glass hl f1 tx hqo hb1 hT) ht (fun h => absurd h (by decide))
