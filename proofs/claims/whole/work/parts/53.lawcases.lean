def Op_feed (ΓC ΓM : ly) (Sim Sim2 : mm → mm → Prop) : Prop := ∀ (σC σM : mm) (a1 a2 a3 a4 a5 : Int32) , Sim σC σM → ∃ (r : Int32) (σC' σM' : mm), (fX12_feed ΓC.2 σC 64 a1 a2 a3 a4 a5 = some (r, σC')) ∧ (fX13_feed ΓM.2 σM 64 a1 a2 a3 a4 a5 = some (r, σM')) ∧ Sim2 σC' σM'
theorem law_feed {p : Program} {l : Launch} {e : Env} {s : State} {m : MethodId} {b : Nat} {below : List Frame} {meth : Method} {c : Code} {H : Heap} {locs : List Loc} {k n : Nat} {Z : State → Prop} {ls : Array Slot} {L : Nat} {xs : Nat → Int32} {GC GM : gg} {ΓC ΓM : ly} {σC σM : mm} {cJ : ClassId} {qo i : Nat} {Sim Sim2 : mm → mm → Prop} {NB : Heap → Prop} (hnb : NBs GC GM qo NB) (hop : Op_feed ΓC ΓM Sim Sim2) (hx : p.tables.exec = Jvm.exec) (hb : c.code = code) (hml : c.maxLocals = 7) (hown : s.vm.findClass RL = some m.cls) (hts : ∀ w ∈ lw_tbl, w.before #[Value.ref b] s = true) (hX : va_X b L xs s s.heap) (hbl : b < s.heap.size) (hL3 : L ≤ 3072) (F : LF GC GM cJ qo s) (tx : tyOK ΓC (0, 11) 64) (tm : tyOK ΓM (0, 12) 64) (hi : i + 6 ≤ L) (hk : k ≤ 601024) (hn : n ≤ 7293034) (hs : Sim σC σM) (I : LSt GC GM ΓC σC ΓM σM cJ qo NB s H locs) (hl : lv_has ls 7 [(0, .ref b), (1, .ref (GC.2.1 64)), (2, .ref (GM.2.1 64)), (3, .ref qo), (4, .int (nI i))])
    (kk : ∀ (σC' σM' : mm) (H1 : Heap) (locs1 : List Loc), Sim2 σC' σM' → LSt GC GM ΓC σC' ΓM σM' cJ qo NB s H1 locs1 → W p l e room_1 s m #[Value.ref b] below meth c H1 locs1 k n Z (F0 m 1492 ls [])) : W p l e room_1 s m #[Value.ref b] below meth c H locs k n Z (F0 m 224 ls []) := by
  obtain ⟨R1, R2, ⟨ov, ho⟩, hS, hnB⟩ := I
  obtain ⟨k1, k2, f1, f2, b1, b2, b3, b4, b5, b6⟩ := F
  obtain ⟨r, σC', σM', e1, e2, hs'⟩ := hop σC σM (xs (i + 1)) (xs (i + 2)) (xs (i + 3)) (xs (i + 4)) (xs (i + 5)) hs
  refine lv_aload_n hx hb dL_224 rfl (lv_at hl 1 rfl) ?_
  refine L_arg 1 0 4 hx hb hX hbl hL3 hS hl rfl rfl (by omega) (by decide) dL_225 dL_226 dL_228 dL_229 dL_230 ?_
  refine L_arg 2 0 4 hx hb hX hbl hL3 hS hl rfl rfl (by omega) (by decide) dL_231 dL_232 dL_234 dL_235 dL_236 ?_
  refine L_arg 3 0 4 hx hb hX hbl hL3 hS hl rfl rfl (by omega) (by decide) dL_237 dL_238 dL_240 dL_241 dL_242 ?_
  refine L_arg 4 0 4 hx hb hX hbl hL3 hS hl rfl rfl (by omega) (by decide) dL_243 dL_244 dL_246 dL_247 dL_248 ?_
  refine L_arg 5 0 4 hx hb hX hbl hL3 hS hl rfl rfl (by omega) (by decide) dL_249 dL_250 dL_252 dL_253 dL_254 ?_
  refine L_call (G := GC) (Γ := ΓC) (σ := σC) (σ2 := σC') (a := 64) (ci := 11) (r := r) [.int (xs (i + 1)), .int (xs (i + 2)), .int (xs (i + 3)), .int (xs (i + 4)), .int (xs (i + 5))] hx hb hml hown hts dL_255 cvL_22 rfl rfl tx rfl rfl (Nat.le_of_ble_eq_true rfl) R1 k1 b1 hS hl.1 hk hn (kX12_feed 2047 (by decide) 64 (xs (i + 1)) (xs (i + 2)) (xs (i + 3)) (xs (i + 4)) (xs (i + 5)) tx (r, σC') e1) (fun H1 locs1 R1 z1 o1 hS => ?_)
  have R2 := R2.off (H1 := H1) f2 k2.2.1 (fun q9 hq (w : g_own GM q9) => o1 q9 hq (fun (w2 : g_own GC q9) => by have := w.1; have := w2.2.1; omega))
  have hnB := hnb H H1 hnB z1 (fun q9 h1 h2 _ _ => o1 q9 h1 h2)
  have ho : H1[qo]? = _ := (o1 qo (Array.getElem?_eq_some_iff.mp ho).1 (fun (w2 : g_own GC qo) => by have := w2.2.1; omega)).trans ho
  refine lv_aload_n hx hb dL_258 rfl (lv_at hl 2 rfl) ?_
  refine L_arg 1 0 4 hx hb hX hbl hL3 hS hl rfl rfl (by omega) (by decide) dL_259 dL_260 dL_262 dL_263 dL_264 ?_
  refine L_arg 2 0 4 hx hb hX hbl hL3 hS hl rfl rfl (by omega) (by decide) dL_265 dL_266 dL_268 dL_269 dL_270 ?_
  refine L_arg 3 0 4 hx hb hX hbl hL3 hS hl rfl rfl (by omega) (by decide) dL_271 dL_272 dL_274 dL_275 dL_276 ?_
  refine L_arg 4 0 4 hx hb hX hbl hL3 hS hl rfl rfl (by omega) (by decide) dL_277 dL_278 dL_280 dL_281 dL_282 ?_
  refine L_arg 5 0 4 hx hb hX hbl hL3 hS hl rfl rfl (by omega) (by decide) dL_283 dL_284 dL_286 dL_287 dL_288 ?_
  refine L_call (G := GM) (Γ := ΓM) (σ := σM) (σ2 := σM') (a := 64) (ci := 12) (r := r) [.int (xs (i + 1)), .int (xs (i + 2)), .int (xs (i + 3)), .int (xs (i + 4)), .int (xs (i + 5))] hx hb hml hown hts dL_289 cvL_26 rfl rfl tm rfl rfl (Nat.le_of_ble_eq_true rfl) R2 k2 b2 hS hl.1 hk hn (kX13_feed 2047 (by decide) 64 (xs (i + 1)) (xs (i + 2)) (xs (i + 3)) (xs (i + 4)) (xs (i + 5)) tm (r, σM') e2) (fun H2 locs2 R2 z2 o2 hS => ?_)
  have R1 := R1.off (H1 := H2) f1 k1.2.1 (fun q9 hq (w : g_own GC q9) => o2 q9 hq (fun (w2 : g_own GM q9) => by have := w.2.1; have := w2.1; omega))
  have hnB := hnb H1 H2 hnB z2 (fun q9 h1 _ h2 _ => o2 q9 h1 h2)
  have ho : H2[qo]? = _ := (o2 qo (Array.getElem?_eq_some_iff.mp ho).1 (fun (w2 : g_own GM qo) => by have := w2.2.1; omega)).trans ho
  refine lv_icmp_eq (tgt := 1492) hx hb dL_292 (by decide) (fun _ => ?_) (fun w => absurd rfl w)
  exact kk _ _ H2 locs2 hs' ⟨R1, R2, ⟨ov, ho⟩, hS, hnB⟩
def Op_end (ΓC ΓM : ly) (Sim Sim2 : mm → mm → Prop) : Prop := ∀ (σC σM : mm) (a1 : Int32) , Sim σC σM → ∃ (r : Int32) (σC' σM' : mm), (fX12_end ΓC.2 σC 64 a1 = some (r, σC')) ∧ (fX13_end ΓM.2 σM 64 a1 = some (r, σM')) ∧ Sim2 σC' σM'
theorem law_end {p : Program} {l : Launch} {e : Env} {s : State} {m : MethodId} {b : Nat} {below : List Frame} {meth : Method} {c : Code} {H : Heap} {locs : List Loc} {k n : Nat} {Z : State → Prop} {ls : Array Slot} {L : Nat} {xs : Nat → Int32} {GC GM : gg} {ΓC ΓM : ly} {σC σM : mm} {cJ : ClassId} {qo i : Nat} {Sim Sim2 : mm → mm → Prop} {NB : Heap → Prop} (hnb : NBs GC GM qo NB) (hop : Op_end ΓC ΓM Sim Sim2) (hx : p.tables.exec = Jvm.exec) (hb : c.code = code) (hml : c.maxLocals = 7) (hown : s.vm.findClass RL = some m.cls) (hts : ∀ w ∈ lw_tbl, w.before #[Value.ref b] s = true) (hX : va_X b L xs s s.heap) (hbl : b < s.heap.size) (hL3 : L ≤ 3072) (F : LF GC GM cJ qo s) (tx : tyOK ΓC (0, 11) 64) (tm : tyOK ΓM (0, 12) 64) (hi : i + 6 ≤ L) (hk : k ≤ 601024) (hn : n ≤ 7293034) (hs : Sim σC σM) (I : LSt GC GM ΓC σC ΓM σM cJ qo NB s H locs) (hl : lv_has ls 7 [(0, .ref b), (1, .ref (GC.2.1 64)), (2, .ref (GM.2.1 64)), (3, .ref qo), (4, .int (nI i))])
    (kk : ∀ (σC' σM' : mm) (H1 : Heap) (locs1 : List Loc), Sim2 σC' σM' → LSt GC GM ΓC σC' ΓM σM' cJ qo NB s H1 locs1 → W p l e room_1 s m #[Value.ref b] below meth c H1 locs1 k n Z (F0 m 1492 ls [])) : W p l e room_1 s m #[Value.ref b] below meth c H locs k n Z (F0 m 297 ls []) := by
  obtain ⟨R1, R2, ⟨ov, ho⟩, hS, hnB⟩ := I
  obtain ⟨k1, k2, f1, f2, b1, b2, b3, b4, b5, b6⟩ := F
  obtain ⟨r, σC', σM', e1, e2, hs'⟩ := hop σC σM (xs (i + 1)) hs
  refine lv_aload_n hx hb dL_297 rfl (lv_at hl 1 rfl) ?_
  refine L_arg 1 0 4 hx hb hX hbl hL3 hS hl rfl rfl (by omega) (by decide) dL_298 dL_299 dL_301 dL_302 dL_303 ?_
  refine L_call (G := GC) (Γ := ΓC) (σ := σC) (σ2 := σC') (a := 64) (ci := 11) (r := r) [.int (xs (i + 1))] hx hb hml hown hts dL_304 cvL_27 rfl rfl tx rfl rfl (Nat.le_of_ble_eq_true rfl) R1 k1 b1 hS hl.1 hk hn (kX12_end 2047 (by decide) 64 (xs (i + 1)) tx (r, σC') e1) (fun H1 locs1 R1 z1 o1 hS => ?_)
  have R2 := R2.off (H1 := H1) f2 k2.2.1 (fun q9 hq (w : g_own GM q9) => o1 q9 hq (fun (w2 : g_own GC q9) => by have := w.1; have := w2.2.1; omega))
  have hnB := hnb H H1 hnB z1 (fun q9 h1 h2 _ _ => o1 q9 h1 h2)
  have ho : H1[qo]? = _ := (o1 qo (Array.getElem?_eq_some_iff.mp ho).1 (fun (w2 : g_own GC qo) => by have := w2.2.1; omega)).trans ho
  refine lv_aload_n hx hb dL_307 rfl (lv_at hl 2 rfl) ?_
  refine L_arg 1 0 4 hx hb hX hbl hL3 hS hl rfl rfl (by omega) (by decide) dL_308 dL_309 dL_311 dL_312 dL_313 ?_
  refine L_call (G := GM) (Γ := ΓM) (σ := σM) (σ2 := σM') (a := 64) (ci := 12) (r := r) [.int (xs (i + 1))] hx hb hml hown hts dL_314 cvL_31 rfl rfl tm rfl rfl (Nat.le_of_ble_eq_true rfl) R2 k2 b2 hS hl.1 hk hn (kX13_end 2047 (by decide) 64 (xs (i + 1)) tm (r, σM') e2) (fun H2 locs2 R2 z2 o2 hS => ?_)
  have R1 := R1.off (H1 := H2) f1 k1.2.1 (fun q9 hq (w : g_own GC q9) => o2 q9 hq (fun (w2 : g_own GM q9) => by have := w.2.1; have := w2.1; omega))
  have hnB := hnb H1 H2 hnB z2 (fun q9 h1 _ h2 _ => o2 q9 h1 h2)
  have ho : H2[qo]? = _ := (o2 qo (Array.getElem?_eq_some_iff.mp ho).1 (fun (w2 : g_own GM qo) => by have := w2.2.1; omega)).trans ho
  refine lv_icmp_eq (tgt := 1492) hx hb dL_317 (by decide) (fun _ => ?_) (fun w => absurd rfl w)
  exact kk _ _ H2 locs2 hs' ⟨R1, R2, ⟨ov, ho⟩, hS, hnB⟩
def Op_parish (ΓC ΓM : ly) (Sim Sim2 : mm → mm → Prop) : Prop := ∀ (σC σM : mm) , Sim σC σM → ∃ (r : Int32) (σC' σM' : mm), (fX12_parish ΓC.2 σC 64  = some (r, σC')) ∧ (fX13_parish ΓM.2 σM 64  = some (r, σM')) ∧ Sim2 σC' σM'
theorem law_parish {p : Program} {l : Launch} {e : Env} {s : State} {m : MethodId} {b : Nat} {below : List Frame} {meth : Method} {c : Code} {H : Heap} {locs : List Loc} {k n : Nat} {Z : State → Prop} {ls : Array Slot} {L : Nat} {xs : Nat → Int32} {GC GM : gg} {ΓC ΓM : ly} {σC σM : mm} {cJ : ClassId} {qo i : Nat} {Sim Sim2 : mm → mm → Prop} {NB : Heap → Prop} (hnb : NBs GC GM qo NB) (hop : Op_parish ΓC ΓM Sim Sim2) (hx : p.tables.exec = Jvm.exec) (hb : c.code = code) (hml : c.maxLocals = 7) (hown : s.vm.findClass RL = some m.cls) (hts : ∀ w ∈ lw_tbl, w.before #[Value.ref b] s = true) (hX : va_X b L xs s s.heap) (hbl : b < s.heap.size) (hL3 : L ≤ 3072) (F : LF GC GM cJ qo s) (tx : tyOK ΓC (0, 11) 64) (tm : tyOK ΓM (0, 12) 64) (hi : i + 6 ≤ L) (hk : k ≤ 601024) (hn : n ≤ 7293034) (hs : Sim σC σM) (I : LSt GC GM ΓC σC ΓM σM cJ qo NB s H locs) (hl : lv_has ls 7 [(0, .ref b), (1, .ref (GC.2.1 64)), (2, .ref (GM.2.1 64)), (3, .ref qo), (4, .int (nI i))])
    (kk : ∀ (σC' σM' : mm) (H1 : Heap) (locs1 : List Loc), Sim2 σC' σM' → LSt GC GM ΓC σC' ΓM σM' cJ qo NB s H1 locs1 → W p l e room_1 s m #[Value.ref b] below meth c H1 locs1 k n Z (F0 m 1492 ls [])) : W p l e room_1 s m #[Value.ref b] below meth c H locs k n Z (F0 m 322 ls []) := by
  obtain ⟨R1, R2, ⟨ov, ho⟩, hS, hnB⟩ := I
  obtain ⟨k1, k2, f1, f2, b1, b2, b3, b4, b5, b6⟩ := F
  obtain ⟨r, σC', σM', e1, e2, hs'⟩ := hop σC σM  hs
  refine lv_aload_n hx hb dL_322 rfl (lv_at hl 1 rfl) ?_
  refine L_call (G := GC) (Γ := ΓC) (σ := σC) (σ2 := σC') (a := 64) (ci := 11) (r := r) [] hx hb hml hown hts dL_323 cvL_32 rfl rfl tx rfl rfl (Nat.le_of_ble_eq_true rfl) R1 k1 b1 hS hl.1 hk hn (kX12_parish 2047 (by decide) 64  tx (r, σC') e1) (fun H1 locs1 R1 z1 o1 hS => ?_)
  have R2 := R2.off (H1 := H1) f2 k2.2.1 (fun q9 hq (w : g_own GM q9) => o1 q9 hq (fun (w2 : g_own GC q9) => by have := w.1; have := w2.2.1; omega))
  have hnB := hnb H H1 hnB z1 (fun q9 h1 h2 _ _ => o1 q9 h1 h2)
  have ho : H1[qo]? = _ := (o1 qo (Array.getElem?_eq_some_iff.mp ho).1 (fun (w2 : g_own GC qo) => by have := w2.2.1; omega)).trans ho
  refine lv_aload_n hx hb dL_326 rfl (lv_at hl 2 rfl) ?_
  refine L_call (G := GM) (Γ := ΓM) (σ := σM) (σ2 := σM') (a := 64) (ci := 12) (r := r) [] hx hb hml hown hts dL_327 cvL_36 rfl rfl tm rfl rfl (Nat.le_of_ble_eq_true rfl) R2 k2 b2 hS hl.1 hk hn (kX13_parish 2047 (by decide) 64  tm (r, σM') e2) (fun H2 locs2 R2 z2 o2 hS => ?_)
  have R1 := R1.off (H1 := H2) f1 k1.2.1 (fun q9 hq (w : g_own GC q9) => o2 q9 hq (fun (w2 : g_own GM q9) => by have := w.2.1; have := w2.1; omega))
  have hnB := hnb H1 H2 hnB z2 (fun q9 h1 _ h2 _ => o2 q9 h1 h2)
  have ho : H2[qo]? = _ := (o2 qo (Array.getElem?_eq_some_iff.mp ho).1 (fun (w2 : g_own GM qo) => by have := w2.2.1; omega)).trans ho
  refine lv_icmp_eq (tgt := 1492) hx hb dL_330 (by decide) (fun _ => ?_) (fun w => absurd rfl w)
  exact kk _ _ H2 locs2 hs' ⟨R1, R2, ⟨ov, ho⟩, hS, hnB⟩
def Op_fault (ΓC ΓM : ly) (Sim Sim2 : mm → mm → Prop) : Prop := ∀ (σC σM : mm) , Sim σC σM → ∃ (r : Int32) (σC' σM' : mm), (fX12_fault ΓC.2 σC 64  = some r ∧ σC' = σC) ∧ (fX13_fault ΓM.2 σM 64  = some (r, σM')) ∧ Sim2 σC' σM'
theorem law_fault {p : Program} {l : Launch} {e : Env} {s : State} {m : MethodId} {b : Nat} {below : List Frame} {meth : Method} {c : Code} {H : Heap} {locs : List Loc} {k n : Nat} {Z : State → Prop} {ls : Array Slot} {L : Nat} {xs : Nat → Int32} {GC GM : gg} {ΓC ΓM : ly} {σC σM : mm} {cJ : ClassId} {qo i : Nat} {Sim Sim2 : mm → mm → Prop} {NB : Heap → Prop} (hnb : NBs GC GM qo NB) (hop : Op_fault ΓC ΓM Sim Sim2) (hx : p.tables.exec = Jvm.exec) (hb : c.code = code) (hml : c.maxLocals = 7) (hown : s.vm.findClass RL = some m.cls) (hts : ∀ w ∈ lw_tbl, w.before #[Value.ref b] s = true) (hX : va_X b L xs s s.heap) (hbl : b < s.heap.size) (hL3 : L ≤ 3072) (F : LF GC GM cJ qo s) (tx : tyOK ΓC (0, 11) 64) (tm : tyOK ΓM (0, 12) 64) (hi : i + 6 ≤ L) (hk : k ≤ 601024) (hn : n ≤ 7293034) (hs : Sim σC σM) (I : LSt GC GM ΓC σC ΓM σM cJ qo NB s H locs) (hl : lv_has ls 7 [(0, .ref b), (1, .ref (GC.2.1 64)), (2, .ref (GM.2.1 64)), (3, .ref qo), (4, .int (nI i))])
    (kk : ∀ (σC' σM' : mm) (H1 : Heap) (locs1 : List Loc), Sim2 σC' σM' → LSt GC GM ΓC σC' ΓM σM' cJ qo NB s H1 locs1 → W p l e room_1 s m #[Value.ref b] below meth c H1 locs1 k n Z (F0 m 1492 ls [])) : W p l e room_1 s m #[Value.ref b] below meth c H locs k n Z (F0 m 335 ls []) := by
  obtain ⟨R1, R2, ⟨ov, ho⟩, hS, hnB⟩ := I
  obtain ⟨k1, k2, f1, f2, b1, b2, b3, b4, b5, b6⟩ := F
  obtain ⟨r, σC', σM', e1, e2, hs'⟩ := hop σC σM  hs
  refine lv_aload_n hx hb dL_335 rfl (lv_at hl 1 rfl) ?_
  obtain ⟨e1, q1⟩ := e1
  rw [q1] at hs'
  refine L_call (G := GC) (Γ := ΓC) (σ := σC) (σ2 := σC) (a := 64) (ci := 11) (r := r) [] hx hb hml hown hts dL_336 cvL_37 rfl rfl tx rfl rfl (Nat.le_of_ble_eq_true rfl) R1 k1 b1 hS hl.1 hk hn (kX12_fault 2047 (by decide) 64  tx r e1) (fun H1 locs1 R1 z1 o1 hS => ?_)
  have R2 := R2.off (H1 := H1) f2 k2.2.1 (fun q9 hq (w : g_own GM q9) => o1 q9 hq (fun (w2 : g_own GC q9) => by have := w.1; have := w2.2.1; omega))
  have hnB := hnb H H1 hnB z1 (fun q9 h1 h2 _ _ => o1 q9 h1 h2)
  have ho : H1[qo]? = _ := (o1 qo (Array.getElem?_eq_some_iff.mp ho).1 (fun (w2 : g_own GC qo) => by have := w2.2.1; omega)).trans ho
  refine lv_aload_n hx hb dL_339 rfl (lv_at hl 2 rfl) ?_
  refine L_call (G := GM) (Γ := ΓM) (σ := σM) (σ2 := σM') (a := 64) (ci := 12) (r := r) [] hx hb hml hown hts dL_340 cvL_40 rfl rfl tm rfl rfl (Nat.le_of_ble_eq_true rfl) R2 k2 b2 hS hl.1 hk hn (kX13_fault 2047 (by decide) 64  tm (r, σM') e2) (fun H2 locs2 R2 z2 o2 hS => ?_)
  have R1 := R1.off (H1 := H2) f1 k1.2.1 (fun q9 hq (w : g_own GC q9) => o2 q9 hq (fun (w2 : g_own GM q9) => by have := w.2.1; have := w2.1; omega))
  have hnB := hnb H1 H2 hnB z2 (fun q9 h1 _ h2 _ => o2 q9 h1 h2)
  have ho : H2[qo]? = _ := (o2 qo (Array.getElem?_eq_some_iff.mp ho).1 (fun (w2 : g_own GM qo) => by have := w2.2.1; omega)).trans ho
  refine lv_icmp_eq (tgt := 1492) hx hb dL_343 (by decide) (fun _ => ?_) (fun w => absurd rfl w)
  exact kk _ _ H2 locs2 hs' ⟨R1, R2, ⟨ov, ho⟩, hS, hnB⟩
def Op_now (ΓC ΓM : ly) (Sim Sim2 : mm → mm → Prop) : Prop := ∀ (σC σM : mm) (a1 : Int32) , Sim σC σM → ∃ (r : Int32) (σC' σM' : mm), (fX12_now ΓC.2 σC 64 a1 = some r ∧ σC' = σC) ∧ (fX13_now ΓM.2 σM 64 a1 = some (r, σM')) ∧ Sim2 σC' σM'
theorem law_now {p : Program} {l : Launch} {e : Env} {s : State} {m : MethodId} {b : Nat} {below : List Frame} {meth : Method} {c : Code} {H : Heap} {locs : List Loc} {k n : Nat} {Z : State → Prop} {ls : Array Slot} {L : Nat} {xs : Nat → Int32} {GC GM : gg} {ΓC ΓM : ly} {σC σM : mm} {cJ : ClassId} {qo i : Nat} {Sim Sim2 : mm → mm → Prop} {NB : Heap → Prop} (hnb : NBs GC GM qo NB) (hop : Op_now ΓC ΓM Sim Sim2) (hx : p.tables.exec = Jvm.exec) (hb : c.code = code) (hml : c.maxLocals = 7) (hown : s.vm.findClass RL = some m.cls) (hts : ∀ w ∈ lw_tbl, w.before #[Value.ref b] s = true) (hX : va_X b L xs s s.heap) (hbl : b < s.heap.size) (hL3 : L ≤ 3072) (F : LF GC GM cJ qo s) (tx : tyOK ΓC (0, 11) 64) (tm : tyOK ΓM (0, 12) 64) (hi : i + 6 ≤ L) (hk : k ≤ 601024) (hn : n ≤ 7293034) (hs : Sim σC σM) (I : LSt GC GM ΓC σC ΓM σM cJ qo NB s H locs) (hl : lv_has ls 7 [(0, .ref b), (1, .ref (GC.2.1 64)), (2, .ref (GM.2.1 64)), (3, .ref qo), (4, .int (nI i))])
    (kk : ∀ (σC' σM' : mm) (H1 : Heap) (locs1 : List Loc), Sim2 σC' σM' → LSt GC GM ΓC σC' ΓM σM' cJ qo NB s H1 locs1 → W p l e room_1 s m #[Value.ref b] below meth c H1 locs1 k n Z (F0 m 1492 ls [])) : W p l e room_1 s m #[Value.ref b] below meth c H locs k n Z (F0 m 484 ls []) := by
  obtain ⟨R1, R2, ⟨ov, ho⟩, hS, hnB⟩ := I
  obtain ⟨k1, k2, f1, f2, b1, b2, b3, b4, b5, b6⟩ := F
  obtain ⟨r, σC', σM', e1, e2, hs'⟩ := hop σC σM (xs (i + 1)) hs
  refine lv_aload_n hx hb dL_484 rfl (lv_at hl 1 rfl) ?_
  refine L_arg 1 0 4 hx hb hX hbl hL3 hS hl rfl rfl (by omega) (by decide) dL_485 dL_486 dL_488 dL_489 dL_490 ?_
  obtain ⟨e1, q1⟩ := e1
  rw [q1] at hs'
  refine L_call (G := GC) (Γ := ΓC) (σ := σC) (σ2 := σC) (a := 64) (ci := 11) (r := r) [.int (xs (i + 1))] hx hb hml hown hts dL_491 cvL_53 rfl rfl tx rfl rfl (Nat.le_of_ble_eq_true rfl) R1 k1 b1 hS hl.1 hk hn (kX12_now 2047 (by decide) 64 (xs (i + 1)) tx r e1) (fun H1 locs1 R1 z1 o1 hS => ?_)
  have R2 := R2.off (H1 := H1) f2 k2.2.1 (fun q9 hq (w : g_own GM q9) => o1 q9 hq (fun (w2 : g_own GC q9) => by have := w.1; have := w2.2.1; omega))
  have hnB := hnb H H1 hnB z1 (fun q9 h1 h2 _ _ => o1 q9 h1 h2)
  have ho : H1[qo]? = _ := (o1 qo (Array.getElem?_eq_some_iff.mp ho).1 (fun (w2 : g_own GC qo) => by have := w2.2.1; omega)).trans ho
  refine lv_aload_n hx hb dL_494 rfl (lv_at hl 2 rfl) ?_
  refine L_arg 1 0 4 hx hb hX hbl hL3 hS hl rfl rfl (by omega) (by decide) dL_495 dL_496 dL_498 dL_499 dL_500 ?_
  refine L_call (G := GM) (Γ := ΓM) (σ := σM) (σ2 := σM') (a := 64) (ci := 12) (r := r) [.int (xs (i + 1))] hx hb hml hown hts dL_501 cvL_57 rfl rfl tm rfl rfl (Nat.le_of_ble_eq_true rfl) R2 k2 b2 hS hl.1 hk hn (kX13_now 2047 (by decide) 64 (xs (i + 1)) tm (r, σM') e2) (fun H2 locs2 R2 z2 o2 hS => ?_)
  have R1 := R1.off (H1 := H2) f1 k1.2.1 (fun q9 hq (w : g_own GC q9) => o2 q9 hq (fun (w2 : g_own GM q9) => by have := w.2.1; have := w2.1; omega))
  have hnB := hnb H1 H2 hnB z2 (fun q9 h1 _ h2 _ => o2 q9 h1 h2)
  have ho : H2[qo]? = _ := (o2 qo (Array.getElem?_eq_some_iff.mp ho).1 (fun (w2 : g_own GM qo) => by have := w2.2.1; omega)).trans ho
  refine lv_icmp_eq (tgt := 1492) hx hb dL_504 (by decide) (fun _ => ?_) (fun w => absurd rfl w)
  exact kk _ _ H2 locs2 hs' ⟨R1, R2, ⟨ov, ho⟩, hS, hnB⟩
def Op_turn (ΓC ΓM : ly) (Sim Sim2 : mm → mm → Prop) : Prop := ∀ (σC σM : mm) (a1 : Int32) , Sim σC σM → ∃ (r : Int32) (σC' σM' : mm), (fX12_turn ΓC.2 σC 64 a1 = some (r, σC')) ∧ (fX13_turn ΓM.2 σM 64 a1 = some (r, σM')) ∧ Sim2 σC' σM'
theorem law_turn {p : Program} {l : Launch} {e : Env} {s : State} {m : MethodId} {b : Nat} {below : List Frame} {meth : Method} {c : Code} {H : Heap} {locs : List Loc} {k n : Nat} {Z : State → Prop} {ls : Array Slot} {L : Nat} {xs : Nat → Int32} {GC GM : gg} {ΓC ΓM : ly} {σC σM : mm} {cJ : ClassId} {qo i : Nat} {Sim Sim2 : mm → mm → Prop} {NB : Heap → Prop} (hnb : NBs GC GM qo NB) (hop : Op_turn ΓC ΓM Sim Sim2) (hx : p.tables.exec = Jvm.exec) (hb : c.code = code) (hml : c.maxLocals = 7) (hown : s.vm.findClass RL = some m.cls) (hts : ∀ w ∈ lw_tbl, w.before #[Value.ref b] s = true) (hX : va_X b L xs s s.heap) (hbl : b < s.heap.size) (hL3 : L ≤ 3072) (F : LF GC GM cJ qo s) (tx : tyOK ΓC (0, 11) 64) (tm : tyOK ΓM (0, 12) 64) (hi : i + 6 ≤ L) (hk : k ≤ 601024) (hn : n ≤ 7293034) (hs : Sim σC σM) (I : LSt GC GM ΓC σC ΓM σM cJ qo NB s H locs) (hl : lv_has ls 7 [(0, .ref b), (1, .ref (GC.2.1 64)), (2, .ref (GM.2.1 64)), (3, .ref qo), (4, .int (nI i))])
    (kk : ∀ (σC' σM' : mm) (H1 : Heap) (locs1 : List Loc), Sim2 σC' σM' → LSt GC GM ΓC σC' ΓM σM' cJ qo NB s H1 locs1 → W p l e room_1 s m #[Value.ref b] below meth c H1 locs1 k n Z (F0 m 1492 ls [])) : W p l e room_1 s m #[Value.ref b] below meth c H locs k n Z (F0 m 509 ls []) := by
  obtain ⟨R1, R2, ⟨ov, ho⟩, hS, hnB⟩ := I
  obtain ⟨k1, k2, f1, f2, b1, b2, b3, b4, b5, b6⟩ := F
  obtain ⟨r, σC', σM', e1, e2, hs'⟩ := hop σC σM (xs (i + 1)) hs
  refine lv_aload_n hx hb dL_509 rfl (lv_at hl 1 rfl) ?_
  refine L_arg 1 0 4 hx hb hX hbl hL3 hS hl rfl rfl (by omega) (by decide) dL_510 dL_511 dL_513 dL_514 dL_515 ?_
  refine L_call (G := GC) (Γ := ΓC) (σ := σC) (σ2 := σC') (a := 64) (ci := 11) (r := r) [.int (xs (i + 1))] hx hb hml hown hts dL_516 cvL_58 rfl rfl tx rfl rfl (Nat.le_of_ble_eq_true rfl) R1 k1 b1 hS hl.1 hk hn (kX12_turn 2047 (by decide) 64 (xs (i + 1)) tx (r, σC') e1) (fun H1 locs1 R1 z1 o1 hS => ?_)
  have R2 := R2.off (H1 := H1) f2 k2.2.1 (fun q9 hq (w : g_own GM q9) => o1 q9 hq (fun (w2 : g_own GC q9) => by have := w.1; have := w2.2.1; omega))
  have hnB := hnb H H1 hnB z1 (fun q9 h1 h2 _ _ => o1 q9 h1 h2)
  have ho : H1[qo]? = _ := (o1 qo (Array.getElem?_eq_some_iff.mp ho).1 (fun (w2 : g_own GC qo) => by have := w2.2.1; omega)).trans ho
  refine lv_aload_n hx hb dL_519 rfl (lv_at hl 2 rfl) ?_
  refine L_arg 1 0 4 hx hb hX hbl hL3 hS hl rfl rfl (by omega) (by decide) dL_520 dL_521 dL_523 dL_524 dL_525 ?_
  refine L_call (G := GM) (Γ := ΓM) (σ := σM) (σ2 := σM') (a := 64) (ci := 12) (r := r) [.int (xs (i + 1))] hx hb hml hown hts dL_526 cvL_61 rfl rfl tm rfl rfl (Nat.le_of_ble_eq_true rfl) R2 k2 b2 hS hl.1 hk hn (kX13_turn 2047 (by decide) 64 (xs (i + 1)) tm (r, σM') e2) (fun H2 locs2 R2 z2 o2 hS => ?_)
  have R1 := R1.off (H1 := H2) f1 k1.2.1 (fun q9 hq (w : g_own GC q9) => o2 q9 hq (fun (w2 : g_own GM q9) => by have := w.2.1; have := w2.1; omega))
  have hnB := hnb H1 H2 hnB z2 (fun q9 h1 _ h2 _ => o2 q9 h1 h2)
  have ho : H2[qo]? = _ := (o2 qo (Array.getElem?_eq_some_iff.mp ho).1 (fun (w2 : g_own GM qo) => by have := w2.2.1; omega)).trans ho
  refine lv_icmp_eq (tgt := 1492) hx hb dL_529 (by decide) (fun _ => ?_) (fun w => absurd rfl w)
  exact kk _ _ H2 locs2 hs' ⟨R1, R2, ⟨ov, ho⟩, hS, hnB⟩
def Op_wake (ΓC ΓM : ly) (Sim Sim2 : mm → mm → Prop) : Prop := ∀ (σC σM : mm) (a1 : Int32) , Sim σC σM → ∃ (r : Int32) (σC' σM' : mm), (fX12_wake ΓC.2 σC 64 a1 = some (r, σC')) ∧ (fX13_wake ΓM.2 σM 64 a1 = some (r, σM')) ∧ Sim2 σC' σM'
theorem law_wake {p : Program} {l : Launch} {e : Env} {s : State} {m : MethodId} {b : Nat} {below : List Frame} {meth : Method} {c : Code} {H : Heap} {locs : List Loc} {k n : Nat} {Z : State → Prop} {ls : Array Slot} {L : Nat} {xs : Nat → Int32} {GC GM : gg} {ΓC ΓM : ly} {σC σM : mm} {cJ : ClassId} {qo i : Nat} {Sim Sim2 : mm → mm → Prop} {NB : Heap → Prop} (hnb : NBs GC GM qo NB) (hop : Op_wake ΓC ΓM Sim Sim2) (hx : p.tables.exec = Jvm.exec) (hb : c.code = code) (hml : c.maxLocals = 7) (hown : s.vm.findClass RL = some m.cls) (hts : ∀ w ∈ lw_tbl, w.before #[Value.ref b] s = true) (hX : va_X b L xs s s.heap) (hbl : b < s.heap.size) (hL3 : L ≤ 3072) (F : LF GC GM cJ qo s) (tx : tyOK ΓC (0, 11) 64) (tm : tyOK ΓM (0, 12) 64) (hi : i + 6 ≤ L) (hk : k ≤ 601024) (hn : n ≤ 7293034) (hs : Sim σC σM) (I : LSt GC GM ΓC σC ΓM σM cJ qo NB s H locs) (hl : lv_has ls 7 [(0, .ref b), (1, .ref (GC.2.1 64)), (2, .ref (GM.2.1 64)), (3, .ref qo), (4, .int (nI i))])
    (kk : ∀ (σC' σM' : mm) (H1 : Heap) (locs1 : List Loc), Sim2 σC' σM' → LSt GC GM ΓC σC' ΓM σM' cJ qo NB s H1 locs1 → W p l e room_1 s m #[Value.ref b] below meth c H1 locs1 k n Z (F0 m 1492 ls [])) : W p l e room_1 s m #[Value.ref b] below meth c H locs k n Z (F0 m 534 ls []) := by
  obtain ⟨R1, R2, ⟨ov, ho⟩, hS, hnB⟩ := I
  obtain ⟨k1, k2, f1, f2, b1, b2, b3, b4, b5, b6⟩ := F
  obtain ⟨r, σC', σM', e1, e2, hs'⟩ := hop σC σM (xs (i + 1)) hs
  refine lv_aload_n hx hb dL_534 rfl (lv_at hl 1 rfl) ?_
  refine L_arg 1 0 4 hx hb hX hbl hL3 hS hl rfl rfl (by omega) (by decide) dL_535 dL_536 dL_538 dL_539 dL_540 ?_
  refine L_call (G := GC) (Γ := ΓC) (σ := σC) (σ2 := σC') (a := 64) (ci := 11) (r := r) [.int (xs (i + 1))] hx hb hml hown hts dL_541 cvL_62 rfl rfl tx rfl rfl (Nat.le_of_ble_eq_true rfl) R1 k1 b1 hS hl.1 hk hn (kX12_wake 2047 (by decide) 64 (xs (i + 1)) tx (r, σC') e1) (fun H1 locs1 R1 z1 o1 hS => ?_)
  have R2 := R2.off (H1 := H1) f2 k2.2.1 (fun q9 hq (w : g_own GM q9) => o1 q9 hq (fun (w2 : g_own GC q9) => by have := w.1; have := w2.2.1; omega))
  have hnB := hnb H H1 hnB z1 (fun q9 h1 h2 _ _ => o1 q9 h1 h2)
  have ho : H1[qo]? = _ := (o1 qo (Array.getElem?_eq_some_iff.mp ho).1 (fun (w2 : g_own GC qo) => by have := w2.2.1; omega)).trans ho
  refine lv_aload_n hx hb dL_544 rfl (lv_at hl 2 rfl) ?_
  refine L_arg 1 0 4 hx hb hX hbl hL3 hS hl rfl rfl (by omega) (by decide) dL_545 dL_546 dL_548 dL_549 dL_550 ?_
  refine L_call (G := GM) (Γ := ΓM) (σ := σM) (σ2 := σM') (a := 64) (ci := 12) (r := r) [.int (xs (i + 1))] hx hb hml hown hts dL_551 cvL_65 rfl rfl tm rfl rfl (Nat.le_of_ble_eq_true rfl) R2 k2 b2 hS hl.1 hk hn (kX13_wake 2047 (by decide) 64 (xs (i + 1)) tm (r, σM') e2) (fun H2 locs2 R2 z2 o2 hS => ?_)
  have R1 := R1.off (H1 := H2) f1 k1.2.1 (fun q9 hq (w : g_own GC q9) => o2 q9 hq (fun (w2 : g_own GM q9) => by have := w.2.1; have := w2.1; omega))
  have hnB := hnb H1 H2 hnB z2 (fun q9 h1 _ h2 _ => o2 q9 h1 h2)
  have ho : H2[qo]? = _ := (o2 qo (Array.getElem?_eq_some_iff.mp ho).1 (fun (w2 : g_own GM qo) => by have := w2.2.1; omega)).trans ho
  refine lv_icmp_eq (tgt := 1492) hx hb dL_554 (by decide) (fun _ => ?_) (fun w => absurd rfl w)
  exact kk _ _ H2 locs2 hs' ⟨R1, R2, ⟨ov, ho⟩, hS, hnB⟩
def Op_woo (ΓC ΓM : ly) (Sim Sim2 : mm → mm → Prop) : Prop := ∀ (σC σM : mm) (a1 a2 : Int32) , Sim σC σM → ∃ (r : Int32) (σC' σM' : mm), (fX12_woo ΓC.2 σC 64 a1 a2 = some (r, σC')) ∧ (fX13_woo ΓM.2 σM 64 a1 a2 = some (r, σM')) ∧ Sim2 σC' σM'
theorem law_woo {p : Program} {l : Launch} {e : Env} {s : State} {m : MethodId} {b : Nat} {below : List Frame} {meth : Method} {c : Code} {H : Heap} {locs : List Loc} {k n : Nat} {Z : State → Prop} {ls : Array Slot} {L : Nat} {xs : Nat → Int32} {GC GM : gg} {ΓC ΓM : ly} {σC σM : mm} {cJ : ClassId} {qo i : Nat} {Sim Sim2 : mm → mm → Prop} {NB : Heap → Prop} (hnb : NBs GC GM qo NB) (hop : Op_woo ΓC ΓM Sim Sim2) (hx : p.tables.exec = Jvm.exec) (hb : c.code = code) (hml : c.maxLocals = 7) (hown : s.vm.findClass RL = some m.cls) (hts : ∀ w ∈ lw_tbl, w.before #[Value.ref b] s = true) (hX : va_X b L xs s s.heap) (hbl : b < s.heap.size) (hL3 : L ≤ 3072) (F : LF GC GM cJ qo s) (tx : tyOK ΓC (0, 11) 64) (tm : tyOK ΓM (0, 12) 64) (hi : i + 6 ≤ L) (hk : k ≤ 601024) (hn : n ≤ 7293034) (hs : Sim σC σM) (I : LSt GC GM ΓC σC ΓM σM cJ qo NB s H locs) (hl : lv_has ls 7 [(0, .ref b), (1, .ref (GC.2.1 64)), (2, .ref (GM.2.1 64)), (3, .ref qo), (4, .int (nI i))])
    (kk : ∀ (σC' σM' : mm) (H1 : Heap) (locs1 : List Loc), Sim2 σC' σM' → LSt GC GM ΓC σC' ΓM σM' cJ qo NB s H1 locs1 → W p l e room_1 s m #[Value.ref b] below meth c H1 locs1 k n Z (F0 m 1492 ls [])) : W p l e room_1 s m #[Value.ref b] below meth c H locs k n Z (F0 m 559 ls []) := by
  obtain ⟨R1, R2, ⟨ov, ho⟩, hS, hnB⟩ := I
  obtain ⟨k1, k2, f1, f2, b1, b2, b3, b4, b5, b6⟩ := F
  obtain ⟨r, σC', σM', e1, e2, hs'⟩ := hop σC σM (xs (i + 1)) (xs (i + 2)) hs
  refine lv_aload_n hx hb dL_559 rfl (lv_at hl 1 rfl) ?_
  refine L_arg 1 0 4 hx hb hX hbl hL3 hS hl rfl rfl (by omega) (by decide) dL_560 dL_561 dL_563 dL_564 dL_565 ?_
  refine L_arg 2 0 4 hx hb hX hbl hL3 hS hl rfl rfl (by omega) (by decide) dL_566 dL_567 dL_569 dL_570 dL_571 ?_
  refine L_call (G := GC) (Γ := ΓC) (σ := σC) (σ2 := σC') (a := 64) (ci := 11) (r := r) [.int (xs (i + 1)), .int (xs (i + 2))] hx hb hml hown hts dL_572 cvL_66 rfl rfl tx rfl rfl (Nat.le_of_ble_eq_true rfl) R1 k1 b1 hS hl.1 hk hn (kX12_woo 2047 (by decide) 64 (xs (i + 1)) (xs (i + 2)) tx (r, σC') e1) (fun H1 locs1 R1 z1 o1 hS => ?_)
  have R2 := R2.off (H1 := H1) f2 k2.2.1 (fun q9 hq (w : g_own GM q9) => o1 q9 hq (fun (w2 : g_own GC q9) => by have := w.1; have := w2.2.1; omega))
  have hnB := hnb H H1 hnB z1 (fun q9 h1 h2 _ _ => o1 q9 h1 h2)
  have ho : H1[qo]? = _ := (o1 qo (Array.getElem?_eq_some_iff.mp ho).1 (fun (w2 : g_own GC qo) => by have := w2.2.1; omega)).trans ho
  refine lv_aload_n hx hb dL_575 rfl (lv_at hl 2 rfl) ?_
  refine L_arg 1 0 4 hx hb hX hbl hL3 hS hl rfl rfl (by omega) (by decide) dL_576 dL_577 dL_579 dL_580 dL_581 ?_
  refine L_arg 2 0 4 hx hb hX hbl hL3 hS hl rfl rfl (by omega) (by decide) dL_582 dL_583 dL_585 dL_586 dL_587 ?_
  refine L_call (G := GM) (Γ := ΓM) (σ := σM) (σ2 := σM') (a := 64) (ci := 12) (r := r) [.int (xs (i + 1)), .int (xs (i + 2))] hx hb hml hown hts dL_588 cvL_69 rfl rfl tm rfl rfl (Nat.le_of_ble_eq_true rfl) R2 k2 b2 hS hl.1 hk hn (kX13_woo 2047 (by decide) 64 (xs (i + 1)) (xs (i + 2)) tm (r, σM') e2) (fun H2 locs2 R2 z2 o2 hS => ?_)
  have R1 := R1.off (H1 := H2) f1 k1.2.1 (fun q9 hq (w : g_own GC q9) => o2 q9 hq (fun (w2 : g_own GM q9) => by have := w.2.1; have := w2.1; omega))
  have hnB := hnb H1 H2 hnB z2 (fun q9 h1 _ h2 _ => o2 q9 h1 h2)
  have ho : H2[qo]? = _ := (o2 qo (Array.getElem?_eq_some_iff.mp ho).1 (fun (w2 : g_own GM qo) => by have := w2.2.1; omega)).trans ho
  refine lv_icmp_eq (tgt := 1492) hx hb dL_591 (by decide) (fun _ => ?_) (fun w => absurd rfl w)
  exact kk _ _ H2 locs2 hs' ⟨R1, R2, ⟨ov, ho⟩, hS, hnB⟩
def Op_tilt (ΓC ΓM : ly) (Sim Sim2 : mm → mm → Prop) : Prop := ∀ (σC σM : mm) (a1 a2 : Int32) , Sim σC σM → ∃ (r : Int32) (σC' σM' : mm), (fX12_tilt ΓC.2 σC 64 a1 a2 = some (r, σC')) ∧ (fX13_tilt ΓM.2 σM 64 a1 a2 = some (r, σM')) ∧ Sim2 σC' σM'
theorem law_tilt {p : Program} {l : Launch} {e : Env} {s : State} {m : MethodId} {b : Nat} {below : List Frame} {meth : Method} {c : Code} {H : Heap} {locs : List Loc} {k n : Nat} {Z : State → Prop} {ls : Array Slot} {L : Nat} {xs : Nat → Int32} {GC GM : gg} {ΓC ΓM : ly} {σC σM : mm} {cJ : ClassId} {qo i : Nat} {Sim Sim2 : mm → mm → Prop} {NB : Heap → Prop} (hnb : NBs GC GM qo NB) (hop : Op_tilt ΓC ΓM Sim Sim2) (hx : p.tables.exec = Jvm.exec) (hb : c.code = code) (hml : c.maxLocals = 7) (hown : s.vm.findClass RL = some m.cls) (hts : ∀ w ∈ lw_tbl, w.before #[Value.ref b] s = true) (hX : va_X b L xs s s.heap) (hbl : b < s.heap.size) (hL3 : L ≤ 3072) (F : LF GC GM cJ qo s) (tx : tyOK ΓC (0, 11) 64) (tm : tyOK ΓM (0, 12) 64) (hi : i + 6 ≤ L) (hk : k ≤ 601024) (hn : n ≤ 7293034) (hs : Sim σC σM) (I : LSt GC GM ΓC σC ΓM σM cJ qo NB s H locs) (hl : lv_has ls 7 [(0, .ref b), (1, .ref (GC.2.1 64)), (2, .ref (GM.2.1 64)), (3, .ref qo), (4, .int (nI i))])
    (kk : ∀ (σC' σM' : mm) (H1 : Heap) (locs1 : List Loc), Sim2 σC' σM' → LSt GC GM ΓC σC' ΓM σM' cJ qo NB s H1 locs1 → W p l e room_1 s m #[Value.ref b] below meth c H1 locs1 k n Z (F0 m 1492 ls [])) : W p l e room_1 s m #[Value.ref b] below meth c H locs k n Z (F0 m 596 ls []) := by
  obtain ⟨R1, R2, ⟨ov, ho⟩, hS, hnB⟩ := I
  obtain ⟨k1, k2, f1, f2, b1, b2, b3, b4, b5, b6⟩ := F
  obtain ⟨r, σC', σM', e1, e2, hs'⟩ := hop σC σM (xs (i + 1)) (xs (i + 2)) hs
  refine lv_aload_n hx hb dL_596 rfl (lv_at hl 1 rfl) ?_
  refine L_arg 1 0 4 hx hb hX hbl hL3 hS hl rfl rfl (by omega) (by decide) dL_597 dL_598 dL_600 dL_601 dL_602 ?_
  refine L_arg 2 0 4 hx hb hX hbl hL3 hS hl rfl rfl (by omega) (by decide) dL_603 dL_604 dL_606 dL_607 dL_608 ?_
  refine L_call (G := GC) (Γ := ΓC) (σ := σC) (σ2 := σC') (a := 64) (ci := 11) (r := r) [.int (xs (i + 1)), .int (xs (i + 2))] hx hb hml hown hts dL_609 cvL_70 rfl rfl tx rfl rfl (Nat.le_of_ble_eq_true rfl) R1 k1 b1 hS hl.1 hk hn (kX12_tilt 2047 (by decide) 64 (xs (i + 1)) (xs (i + 2)) tx (r, σC') e1) (fun H1 locs1 R1 z1 o1 hS => ?_)
  have R2 := R2.off (H1 := H1) f2 k2.2.1 (fun q9 hq (w : g_own GM q9) => o1 q9 hq (fun (w2 : g_own GC q9) => by have := w.1; have := w2.2.1; omega))
  have hnB := hnb H H1 hnB z1 (fun q9 h1 h2 _ _ => o1 q9 h1 h2)
  have ho : H1[qo]? = _ := (o1 qo (Array.getElem?_eq_some_iff.mp ho).1 (fun (w2 : g_own GC qo) => by have := w2.2.1; omega)).trans ho
  refine lv_aload_n hx hb dL_612 rfl (lv_at hl 2 rfl) ?_
  refine L_arg 1 0 4 hx hb hX hbl hL3 hS hl rfl rfl (by omega) (by decide) dL_613 dL_614 dL_616 dL_617 dL_618 ?_
  refine L_arg 2 0 4 hx hb hX hbl hL3 hS hl rfl rfl (by omega) (by decide) dL_619 dL_620 dL_622 dL_623 dL_624 ?_
  refine L_call (G := GM) (Γ := ΓM) (σ := σM) (σ2 := σM') (a := 64) (ci := 12) (r := r) [.int (xs (i + 1)), .int (xs (i + 2))] hx hb hml hown hts dL_625 cvL_73 rfl rfl tm rfl rfl (Nat.le_of_ble_eq_true rfl) R2 k2 b2 hS hl.1 hk hn (kX13_tilt 2047 (by decide) 64 (xs (i + 1)) (xs (i + 2)) tm (r, σM') e2) (fun H2 locs2 R2 z2 o2 hS => ?_)
  have R1 := R1.off (H1 := H2) f1 k1.2.1 (fun q9 hq (w : g_own GC q9) => o2 q9 hq (fun (w2 : g_own GM q9) => by have := w.2.1; have := w2.1; omega))
  have hnB := hnb H1 H2 hnB z2 (fun q9 h1 _ h2 _ => o2 q9 h1 h2)
  have ho : H2[qo]? = _ := (o2 qo (Array.getElem?_eq_some_iff.mp ho).1 (fun (w2 : g_own GM qo) => by have := w2.2.1; omega)).trans ho
  refine lv_icmp_eq (tgt := 1492) hx hb dL_628 (by decide) (fun _ => ?_) (fun w => absurd rfl w)
  exact kk _ _ H2 locs2 hs' ⟨R1, R2, ⟨ov, ho⟩, hS, hnB⟩
def Op_widen (ΓC ΓM : ly) (Sim Sim2 : mm → mm → Prop) : Prop := ∀ (σC σM : mm) (a1 a2 : Int32) , Sim σC σM → ∃ (r : Int32) (σC' σM' : mm), (fX12_widen ΓC.2 σC 64 a1 a2 = some (r, σC')) ∧ (fX13_widen ΓM.2 σM 64 a1 a2 = some (r, σM')) ∧ Sim2 σC' σM'
theorem law_widen {p : Program} {l : Launch} {e : Env} {s : State} {m : MethodId} {b : Nat} {below : List Frame} {meth : Method} {c : Code} {H : Heap} {locs : List Loc} {k n : Nat} {Z : State → Prop} {ls : Array Slot} {L : Nat} {xs : Nat → Int32} {GC GM : gg} {ΓC ΓM : ly} {σC σM : mm} {cJ : ClassId} {qo i : Nat} {Sim Sim2 : mm → mm → Prop} {NB : Heap → Prop} (hnb : NBs GC GM qo NB) (hop : Op_widen ΓC ΓM Sim Sim2) (hx : p.tables.exec = Jvm.exec) (hb : c.code = code) (hml : c.maxLocals = 7) (hown : s.vm.findClass RL = some m.cls) (hts : ∀ w ∈ lw_tbl, w.before #[Value.ref b] s = true) (hX : va_X b L xs s s.heap) (hbl : b < s.heap.size) (hL3 : L ≤ 3072) (F : LF GC GM cJ qo s) (tx : tyOK ΓC (0, 11) 64) (tm : tyOK ΓM (0, 12) 64) (hi : i + 6 ≤ L) (hk : k ≤ 601024) (hn : n ≤ 7293034) (hs : Sim σC σM) (I : LSt GC GM ΓC σC ΓM σM cJ qo NB s H locs) (hl : lv_has ls 7 [(0, .ref b), (1, .ref (GC.2.1 64)), (2, .ref (GM.2.1 64)), (3, .ref qo), (4, .int (nI i))])
    (kk : ∀ (σC' σM' : mm) (H1 : Heap) (locs1 : List Loc), Sim2 σC' σM' → LSt GC GM ΓC σC' ΓM σM' cJ qo NB s H1 locs1 → W p l e room_1 s m #[Value.ref b] below meth c H1 locs1 k n Z (F0 m 1492 ls [])) : W p l e room_1 s m #[Value.ref b] below meth c H locs k n Z (F0 m 633 ls []) := by
  obtain ⟨R1, R2, ⟨ov, ho⟩, hS, hnB⟩ := I
  obtain ⟨k1, k2, f1, f2, b1, b2, b3, b4, b5, b6⟩ := F
  obtain ⟨r, σC', σM', e1, e2, hs'⟩ := hop σC σM (xs (i + 1)) (xs (i + 2)) hs
  refine lv_aload_n hx hb dL_633 rfl (lv_at hl 1 rfl) ?_
  refine L_arg 1 0 4 hx hb hX hbl hL3 hS hl rfl rfl (by omega) (by decide) dL_634 dL_635 dL_637 dL_638 dL_639 ?_
  refine L_arg 2 0 4 hx hb hX hbl hL3 hS hl rfl rfl (by omega) (by decide) dL_640 dL_641 dL_643 dL_644 dL_645 ?_
  refine L_call (G := GC) (Γ := ΓC) (σ := σC) (σ2 := σC') (a := 64) (ci := 11) (r := r) [.int (xs (i + 1)), .int (xs (i + 2))] hx hb hml hown hts dL_646 cvL_74 rfl rfl tx rfl rfl (Nat.le_of_ble_eq_true rfl) R1 k1 b1 hS hl.1 hk hn (kX12_widen 2047 (by decide) 64 (xs (i + 1)) (xs (i + 2)) tx (r, σC') e1) (fun H1 locs1 R1 z1 o1 hS => ?_)
  have R2 := R2.off (H1 := H1) f2 k2.2.1 (fun q9 hq (w : g_own GM q9) => o1 q9 hq (fun (w2 : g_own GC q9) => by have := w.1; have := w2.2.1; omega))
  have hnB := hnb H H1 hnB z1 (fun q9 h1 h2 _ _ => o1 q9 h1 h2)
  have ho : H1[qo]? = _ := (o1 qo (Array.getElem?_eq_some_iff.mp ho).1 (fun (w2 : g_own GC qo) => by have := w2.2.1; omega)).trans ho
  refine lv_aload_n hx hb dL_649 rfl (lv_at hl 2 rfl) ?_
  refine L_arg 1 0 4 hx hb hX hbl hL3 hS hl rfl rfl (by omega) (by decide) dL_650 dL_651 dL_653 dL_654 dL_655 ?_
  refine L_arg 2 0 4 hx hb hX hbl hL3 hS hl rfl rfl (by omega) (by decide) dL_656 dL_657 dL_659 dL_660 dL_661 ?_
  refine L_call (G := GM) (Γ := ΓM) (σ := σM) (σ2 := σM') (a := 64) (ci := 12) (r := r) [.int (xs (i + 1)), .int (xs (i + 2))] hx hb hml hown hts dL_662 cvL_77 rfl rfl tm rfl rfl (Nat.le_of_ble_eq_true rfl) R2 k2 b2 hS hl.1 hk hn (kX13_widen 2047 (by decide) 64 (xs (i + 1)) (xs (i + 2)) tm (r, σM') e2) (fun H2 locs2 R2 z2 o2 hS => ?_)
  have R1 := R1.off (H1 := H2) f1 k1.2.1 (fun q9 hq (w : g_own GC q9) => o2 q9 hq (fun (w2 : g_own GM q9) => by have := w.2.1; have := w2.1; omega))
  have hnB := hnb H1 H2 hnB z2 (fun q9 h1 _ h2 _ => o2 q9 h1 h2)
  have ho : H2[qo]? = _ := (o2 qo (Array.getElem?_eq_some_iff.mp ho).1 (fun (w2 : g_own GM qo) => by have := w2.2.1; omega)).trans ho
  refine lv_icmp_eq (tgt := 1492) hx hb dL_665 (by decide) (fun _ => ?_) (fun w => absurd rfl w)
  exact kk _ _ H2 locs2 hs' ⟨R1, R2, ⟨ov, ho⟩, hS, hnB⟩
def Op_spill (ΓC ΓM : ly) (Sim Sim2 : mm → mm → Prop) : Prop := ∀ (σC σM : mm) (a1 a2 : Int32) , Sim σC σM → ∃ (r : Int32) (σC' σM' : mm), (fX12_spill ΓC.2 σC 64 a1 a2 = some (r, σC')) ∧ (fX13_spill ΓM.2 σM 64 a1 a2 = some (r, σM')) ∧ Sim2 σC' σM'
theorem law_spill {p : Program} {l : Launch} {e : Env} {s : State} {m : MethodId} {b : Nat} {below : List Frame} {meth : Method} {c : Code} {H : Heap} {locs : List Loc} {k n : Nat} {Z : State → Prop} {ls : Array Slot} {L : Nat} {xs : Nat → Int32} {GC GM : gg} {ΓC ΓM : ly} {σC σM : mm} {cJ : ClassId} {qo i : Nat} {Sim Sim2 : mm → mm → Prop} {NB : Heap → Prop} (hnb : NBs GC GM qo NB) (hop : Op_spill ΓC ΓM Sim Sim2) (hx : p.tables.exec = Jvm.exec) (hb : c.code = code) (hml : c.maxLocals = 7) (hown : s.vm.findClass RL = some m.cls) (hts : ∀ w ∈ lw_tbl, w.before #[Value.ref b] s = true) (hX : va_X b L xs s s.heap) (hbl : b < s.heap.size) (hL3 : L ≤ 3072) (F : LF GC GM cJ qo s) (tx : tyOK ΓC (0, 11) 64) (tm : tyOK ΓM (0, 12) 64) (hi : i + 6 ≤ L) (hk : k ≤ 601024) (hn : n ≤ 7293034) (hs : Sim σC σM) (I : LSt GC GM ΓC σC ΓM σM cJ qo NB s H locs) (hl : lv_has ls 7 [(0, .ref b), (1, .ref (GC.2.1 64)), (2, .ref (GM.2.1 64)), (3, .ref qo), (4, .int (nI i))])
    (kk : ∀ (σC' σM' : mm) (H1 : Heap) (locs1 : List Loc), Sim2 σC' σM' → LSt GC GM ΓC σC' ΓM σM' cJ qo NB s H1 locs1 → W p l e room_1 s m #[Value.ref b] below meth c H1 locs1 k n Z (F0 m 1492 ls [])) : W p l e room_1 s m #[Value.ref b] below meth c H locs k n Z (F0 m 670 ls []) := by
  obtain ⟨R1, R2, ⟨ov, ho⟩, hS, hnB⟩ := I
  obtain ⟨k1, k2, f1, f2, b1, b2, b3, b4, b5, b6⟩ := F
  obtain ⟨r, σC', σM', e1, e2, hs'⟩ := hop σC σM (xs (i + 1)) (xs (i + 2)) hs
  refine lv_aload_n hx hb dL_670 rfl (lv_at hl 1 rfl) ?_
  refine L_arg 1 0 4 hx hb hX hbl hL3 hS hl rfl rfl (by omega) (by decide) dL_671 dL_672 dL_674 dL_675 dL_676 ?_
  refine L_arg 2 0 4 hx hb hX hbl hL3 hS hl rfl rfl (by omega) (by decide) dL_677 dL_678 dL_680 dL_681 dL_682 ?_
  refine L_call (G := GC) (Γ := ΓC) (σ := σC) (σ2 := σC') (a := 64) (ci := 11) (r := r) [.int (xs (i + 1)), .int (xs (i + 2))] hx hb hml hown hts dL_683 cvL_78 rfl rfl tx rfl rfl (Nat.le_of_ble_eq_true rfl) R1 k1 b1 hS hl.1 hk hn (kX12_spill 2047 (by decide) 64 (xs (i + 1)) (xs (i + 2)) tx (r, σC') e1) (fun H1 locs1 R1 z1 o1 hS => ?_)
  have R2 := R2.off (H1 := H1) f2 k2.2.1 (fun q9 hq (w : g_own GM q9) => o1 q9 hq (fun (w2 : g_own GC q9) => by have := w.1; have := w2.2.1; omega))
  have hnB := hnb H H1 hnB z1 (fun q9 h1 h2 _ _ => o1 q9 h1 h2)
  have ho : H1[qo]? = _ := (o1 qo (Array.getElem?_eq_some_iff.mp ho).1 (fun (w2 : g_own GC qo) => by have := w2.2.1; omega)).trans ho
  refine lv_aload_n hx hb dL_686 rfl (lv_at hl 2 rfl) ?_
  refine L_arg 1 0 4 hx hb hX hbl hL3 hS hl rfl rfl (by omega) (by decide) dL_687 dL_688 dL_690 dL_691 dL_692 ?_
  refine L_arg 2 0 4 hx hb hX hbl hL3 hS hl rfl rfl (by omega) (by decide) dL_693 dL_694 dL_696 dL_697 dL_698 ?_
  refine L_call (G := GM) (Γ := ΓM) (σ := σM) (σ2 := σM') (a := 64) (ci := 12) (r := r) [.int (xs (i + 1)), .int (xs (i + 2))] hx hb hml hown hts dL_699 cvL_81 rfl rfl tm rfl rfl (Nat.le_of_ble_eq_true rfl) R2 k2 b2 hS hl.1 hk hn (kX13_spill 2047 (by decide) 64 (xs (i + 1)) (xs (i + 2)) tm (r, σM') e2) (fun H2 locs2 R2 z2 o2 hS => ?_)
  have R1 := R1.off (H1 := H2) f1 k1.2.1 (fun q9 hq (w : g_own GC q9) => o2 q9 hq (fun (w2 : g_own GM q9) => by have := w.2.1; have := w2.1; omega))
  have hnB := hnb H1 H2 hnB z2 (fun q9 h1 _ h2 _ => o2 q9 h1 h2)
  have ho : H2[qo]? = _ := (o2 qo (Array.getElem?_eq_some_iff.mp ho).1 (fun (w2 : g_own GM qo) => by have := w2.2.1; omega)).trans ho
  refine lv_icmp_eq (tgt := 1492) hx hb dL_702 (by decide) (fun _ => ?_) (fun w => absurd rfl w)
  exact kk _ _ H2 locs2 hs' ⟨R1, R2, ⟨ov, ho⟩, hS, hnB⟩
def Op_hours (ΓC ΓM : ly) (Sim Sim2 : mm → mm → Prop) : Prop := ∀ (σC σM : mm) (a1 : Int32) , Sim σC σM → ∃ (r : Int32) (σC' σM' : mm), (fX12_hours ΓC.2 σC 64 a1 = some (r, σC')) ∧ (fX13_hours ΓM.2 σM 64 a1 = some (r, σM')) ∧ Sim2 σC' σM'
theorem law_hours {p : Program} {l : Launch} {e : Env} {s : State} {m : MethodId} {b : Nat} {below : List Frame} {meth : Method} {c : Code} {H : Heap} {locs : List Loc} {k n : Nat} {Z : State → Prop} {ls : Array Slot} {L : Nat} {xs : Nat → Int32} {GC GM : gg} {ΓC ΓM : ly} {σC σM : mm} {cJ : ClassId} {qo i : Nat} {Sim Sim2 : mm → mm → Prop} {NB : Heap → Prop} (hnb : NBs GC GM qo NB) (hop : Op_hours ΓC ΓM Sim Sim2) (hx : p.tables.exec = Jvm.exec) (hb : c.code = code) (hml : c.maxLocals = 7) (hown : s.vm.findClass RL = some m.cls) (hts : ∀ w ∈ lw_tbl, w.before #[Value.ref b] s = true) (hX : va_X b L xs s s.heap) (hbl : b < s.heap.size) (hL3 : L ≤ 3072) (F : LF GC GM cJ qo s) (tx : tyOK ΓC (0, 11) 64) (tm : tyOK ΓM (0, 12) 64) (hi : i + 6 ≤ L) (hk : k ≤ 601024) (hn : n ≤ 7293034) (hs : Sim σC σM) (I : LSt GC GM ΓC σC ΓM σM cJ qo NB s H locs) (hl : lv_has ls 7 [(0, .ref b), (1, .ref (GC.2.1 64)), (2, .ref (GM.2.1 64)), (3, .ref qo), (4, .int (nI i))])
    (kk : ∀ (σC' σM' : mm) (H1 : Heap) (locs1 : List Loc), Sim2 σC' σM' → LSt GC GM ΓC σC' ΓM σM' cJ qo NB s H1 locs1 → W p l e room_1 s m #[Value.ref b] below meth c H1 locs1 k n Z (F0 m 1492 ls [])) : W p l e room_1 s m #[Value.ref b] below meth c H locs k n Z (F0 m 707 ls []) := by
  obtain ⟨R1, R2, ⟨ov, ho⟩, hS, hnB⟩ := I
  obtain ⟨k1, k2, f1, f2, b1, b2, b3, b4, b5, b6⟩ := F
  obtain ⟨r, σC', σM', e1, e2, hs'⟩ := hop σC σM (xs (i + 1)) hs
  refine lv_aload_n hx hb dL_707 rfl (lv_at hl 1 rfl) ?_
  refine L_arg 1 0 4 hx hb hX hbl hL3 hS hl rfl rfl (by omega) (by decide) dL_708 dL_709 dL_711 dL_712 dL_713 ?_
  refine L_call (G := GC) (Γ := ΓC) (σ := σC) (σ2 := σC') (a := 64) (ci := 11) (r := r) [.int (xs (i + 1))] hx hb hml hown hts dL_714 cvL_82 rfl rfl tx rfl rfl (Nat.le_of_ble_eq_true rfl) R1 k1 b1 hS hl.1 hk hn (kX12_hours 2047 (by decide) 64 (xs (i + 1)) tx (r, σC') e1) (fun H1 locs1 R1 z1 o1 hS => ?_)
  have R2 := R2.off (H1 := H1) f2 k2.2.1 (fun q9 hq (w : g_own GM q9) => o1 q9 hq (fun (w2 : g_own GC q9) => by have := w.1; have := w2.2.1; omega))
  have hnB := hnb H H1 hnB z1 (fun q9 h1 h2 _ _ => o1 q9 h1 h2)
  have ho : H1[qo]? = _ := (o1 qo (Array.getElem?_eq_some_iff.mp ho).1 (fun (w2 : g_own GC qo) => by have := w2.2.1; omega)).trans ho
  refine lv_aload_n hx hb dL_717 rfl (lv_at hl 2 rfl) ?_
  refine L_arg 1 0 4 hx hb hX hbl hL3 hS hl rfl rfl (by omega) (by decide) dL_718 dL_719 dL_721 dL_722 dL_723 ?_
  refine L_call (G := GM) (Γ := ΓM) (σ := σM) (σ2 := σM') (a := 64) (ci := 12) (r := r) [.int (xs (i + 1))] hx hb hml hown hts dL_724 cvL_85 rfl rfl tm rfl rfl (Nat.le_of_ble_eq_true rfl) R2 k2 b2 hS hl.1 hk hn (kX13_hours 2047 (by decide) 64 (xs (i + 1)) tm (r, σM') e2) (fun H2 locs2 R2 z2 o2 hS => ?_)
  have R1 := R1.off (H1 := H2) f1 k1.2.1 (fun q9 hq (w : g_own GC q9) => o2 q9 hq (fun (w2 : g_own GM q9) => by have := w.2.1; have := w2.1; omega))
  have hnB := hnb H1 H2 hnB z2 (fun q9 h1 _ h2 _ => o2 q9 h1 h2)
  have ho : H2[qo]? = _ := (o2 qo (Array.getElem?_eq_some_iff.mp ho).1 (fun (w2 : g_own GM qo) => by have := w2.2.1; omega)).trans ho
  refine lv_icmp_eq (tgt := 1492) hx hb dL_727 (by decide) (fun _ => ?_) (fun w => absurd rfl w)
  exact kk _ _ H2 locs2 hs' ⟨R1, R2, ⟨ov, ho⟩, hS, hnB⟩
def Op_undo (ΓC ΓM : ly) (Sim Sim2 : mm → mm → Prop) : Prop := ∀ (σC σM : mm) , Sim σC σM → ∃ (r : Int32) (σC' σM' : mm), (fX12_undo ΓC.2 σC 64  = some (r, σC')) ∧ (fX13_undo ΓM.2 σM 64  = some (r, σM')) ∧ Sim2 σC' σM'
theorem law_undo {p : Program} {l : Launch} {e : Env} {s : State} {m : MethodId} {b : Nat} {below : List Frame} {meth : Method} {c : Code} {H : Heap} {locs : List Loc} {k n : Nat} {Z : State → Prop} {ls : Array Slot} {L : Nat} {xs : Nat → Int32} {GC GM : gg} {ΓC ΓM : ly} {σC σM : mm} {cJ : ClassId} {qo i : Nat} {Sim Sim2 : mm → mm → Prop} {NB : Heap → Prop} (hnb : NBs GC GM qo NB) (hop : Op_undo ΓC ΓM Sim Sim2) (hx : p.tables.exec = Jvm.exec) (hb : c.code = code) (hml : c.maxLocals = 7) (hown : s.vm.findClass RL = some m.cls) (hts : ∀ w ∈ lw_tbl, w.before #[Value.ref b] s = true) (hX : va_X b L xs s s.heap) (hbl : b < s.heap.size) (hL3 : L ≤ 3072) (F : LF GC GM cJ qo s) (tx : tyOK ΓC (0, 11) 64) (tm : tyOK ΓM (0, 12) 64) (hi : i + 6 ≤ L) (hk : k ≤ 601024) (hn : n ≤ 7293034) (hs : Sim σC σM) (I : LSt GC GM ΓC σC ΓM σM cJ qo NB s H locs) (hl : lv_has ls 7 [(0, .ref b), (1, .ref (GC.2.1 64)), (2, .ref (GM.2.1 64)), (3, .ref qo), (4, .int (nI i))])
    (kk : ∀ (σC' σM' : mm) (H1 : Heap) (locs1 : List Loc), Sim2 σC' σM' → LSt GC GM ΓC σC' ΓM σM' cJ qo NB s H1 locs1 → W p l e room_1 s m #[Value.ref b] below meth c H1 locs1 k n Z (F0 m 1492 ls [])) : W p l e room_1 s m #[Value.ref b] below meth c H locs k n Z (F0 m 732 ls []) := by
  obtain ⟨R1, R2, ⟨ov, ho⟩, hS, hnB⟩ := I
  obtain ⟨k1, k2, f1, f2, b1, b2, b3, b4, b5, b6⟩ := F
  obtain ⟨r, σC', σM', e1, e2, hs'⟩ := hop σC σM  hs
  refine lv_aload_n hx hb dL_732 rfl (lv_at hl 1 rfl) ?_
  refine L_call (G := GC) (Γ := ΓC) (σ := σC) (σ2 := σC') (a := 64) (ci := 11) (r := r) [] hx hb hml hown hts dL_733 cvL_86 rfl rfl tx rfl rfl (Nat.le_of_ble_eq_true rfl) R1 k1 b1 hS hl.1 hk hn (kX12_undo 2047 (by decide) 64  tx (r, σC') e1) (fun H1 locs1 R1 z1 o1 hS => ?_)
  have R2 := R2.off (H1 := H1) f2 k2.2.1 (fun q9 hq (w : g_own GM q9) => o1 q9 hq (fun (w2 : g_own GC q9) => by have := w.1; have := w2.2.1; omega))
  have hnB := hnb H H1 hnB z1 (fun q9 h1 h2 _ _ => o1 q9 h1 h2)
  have ho : H1[qo]? = _ := (o1 qo (Array.getElem?_eq_some_iff.mp ho).1 (fun (w2 : g_own GC qo) => by have := w2.2.1; omega)).trans ho
  refine lv_aload_n hx hb dL_736 rfl (lv_at hl 2 rfl) ?_
  refine L_call (G := GM) (Γ := ΓM) (σ := σM) (σ2 := σM') (a := 64) (ci := 12) (r := r) [] hx hb hml hown hts dL_737 cvL_89 rfl rfl tm rfl rfl (Nat.le_of_ble_eq_true rfl) R2 k2 b2 hS hl.1 hk hn (kX13_undo 2047 (by decide) 64  tm (r, σM') e2) (fun H2 locs2 R2 z2 o2 hS => ?_)
  have R1 := R1.off (H1 := H2) f1 k1.2.1 (fun q9 hq (w : g_own GC q9) => o2 q9 hq (fun (w2 : g_own GM q9) => by have := w.2.1; have := w2.1; omega))
  have hnB := hnb H1 H2 hnB z2 (fun q9 h1 _ h2 _ => o2 q9 h1 h2)
  have ho : H2[qo]? = _ := (o2 qo (Array.getElem?_eq_some_iff.mp ho).1 (fun (w2 : g_own GM qo) => by have := w2.2.1; omega)).trans ho
  refine lv_icmp_eq (tgt := 1492) hx hb dL_740 (by decide) (fun _ => ?_) (fun w => absurd rfl w)
  exact kk _ _ H2 locs2 hs' ⟨R1, R2, ⟨ov, ho⟩, hS, hnB⟩
def Op_ends (ΓC ΓM : ly) (Sim Sim2 : mm → mm → Prop) : Prop := ∀ (σC σM : mm) (a1 : Int32) , Sim σC σM → ∃ (r : Int32) (σC' σM' : mm), (fX12_ends ΓC.2 σC 64 a1 = some (r, σC')) ∧ (fX13_ends ΓM.2 σM 64 a1 = some (r, σM')) ∧ Sim2 σC' σM'
theorem law_ends {p : Program} {l : Launch} {e : Env} {s : State} {m : MethodId} {b : Nat} {below : List Frame} {meth : Method} {c : Code} {H : Heap} {locs : List Loc} {k n : Nat} {Z : State → Prop} {ls : Array Slot} {L : Nat} {xs : Nat → Int32} {GC GM : gg} {ΓC ΓM : ly} {σC σM : mm} {cJ : ClassId} {qo i : Nat} {Sim Sim2 : mm → mm → Prop} {NB : Heap → Prop} (hnb : NBs GC GM qo NB) (hop : Op_ends ΓC ΓM Sim Sim2) (hx : p.tables.exec = Jvm.exec) (hb : c.code = code) (hml : c.maxLocals = 7) (hown : s.vm.findClass RL = some m.cls) (hts : ∀ w ∈ lw_tbl, w.before #[Value.ref b] s = true) (hX : va_X b L xs s s.heap) (hbl : b < s.heap.size) (hL3 : L ≤ 3072) (F : LF GC GM cJ qo s) (tx : tyOK ΓC (0, 11) 64) (tm : tyOK ΓM (0, 12) 64) (hi : i + 6 ≤ L) (hk : k ≤ 601024) (hn : n ≤ 7293034) (hs : Sim σC σM) (I : LSt GC GM ΓC σC ΓM σM cJ qo NB s H locs) (hl : lv_has ls 7 [(0, .ref b), (1, .ref (GC.2.1 64)), (2, .ref (GM.2.1 64)), (3, .ref qo), (4, .int (nI i))])
    (kk : ∀ (σC' σM' : mm) (H1 : Heap) (locs1 : List Loc), Sim2 σC' σM' → LSt GC GM ΓC σC' ΓM σM' cJ qo NB s H1 locs1 → W p l e room_1 s m #[Value.ref b] below meth c H1 locs1 k n Z (F0 m 1492 ls [])) : W p l e room_1 s m #[Value.ref b] below meth c H locs k n Z (F0 m 745 ls []) := by
  obtain ⟨R1, R2, ⟨ov, ho⟩, hS, hnB⟩ := I
  obtain ⟨k1, k2, f1, f2, b1, b2, b3, b4, b5, b6⟩ := F
  obtain ⟨r, σC', σM', e1, e2, hs'⟩ := hop σC σM (xs (i + 1)) hs
  refine lv_aload_n hx hb dL_745 rfl (lv_at hl 1 rfl) ?_
  refine L_arg 1 0 4 hx hb hX hbl hL3 hS hl rfl rfl (by omega) (by decide) dL_746 dL_747 dL_749 dL_750 dL_751 ?_
  refine L_call (G := GC) (Γ := ΓC) (σ := σC) (σ2 := σC') (a := 64) (ci := 11) (r := r) [.int (xs (i + 1))] hx hb hml hown hts dL_752 cvL_90 rfl rfl tx rfl rfl (Nat.le_of_ble_eq_true rfl) R1 k1 b1 hS hl.1 hk hn (kX12_ends 2047 (by decide) 64 (xs (i + 1)) tx (r, σC') e1) (fun H1 locs1 R1 z1 o1 hS => ?_)
  have R2 := R2.off (H1 := H1) f2 k2.2.1 (fun q9 hq (w : g_own GM q9) => o1 q9 hq (fun (w2 : g_own GC q9) => by have := w.1; have := w2.2.1; omega))
  have hnB := hnb H H1 hnB z1 (fun q9 h1 h2 _ _ => o1 q9 h1 h2)
  have ho : H1[qo]? = _ := (o1 qo (Array.getElem?_eq_some_iff.mp ho).1 (fun (w2 : g_own GC qo) => by have := w2.2.1; omega)).trans ho
  refine lv_aload_n hx hb dL_755 rfl (lv_at hl 2 rfl) ?_
  refine L_arg 1 0 4 hx hb hX hbl hL3 hS hl rfl rfl (by omega) (by decide) dL_756 dL_757 dL_759 dL_760 dL_761 ?_
  refine L_call (G := GM) (Γ := ΓM) (σ := σM) (σ2 := σM') (a := 64) (ci := 12) (r := r) [.int (xs (i + 1))] hx hb hml hown hts dL_762 cvL_93 rfl rfl tm rfl rfl (Nat.le_of_ble_eq_true rfl) R2 k2 b2 hS hl.1 hk hn (kX13_ends 2047 (by decide) 64 (xs (i + 1)) tm (r, σM') e2) (fun H2 locs2 R2 z2 o2 hS => ?_)
  have R1 := R1.off (H1 := H2) f1 k1.2.1 (fun q9 hq (w : g_own GC q9) => o2 q9 hq (fun (w2 : g_own GM q9) => by have := w.2.1; have := w2.1; omega))
  have hnB := hnb H1 H2 hnB z2 (fun q9 h1 _ h2 _ => o2 q9 h1 h2)
  have ho : H2[qo]? = _ := (o2 qo (Array.getElem?_eq_some_iff.mp ho).1 (fun (w2 : g_own GM qo) => by have := w2.2.1; omega)).trans ho
  refine lv_icmp_eq (tgt := 1492) hx hb dL_765 (by decide) (fun _ => ?_) (fun w => absurd rfl w)
  exact kk _ _ H2 locs2 hs' ⟨R1, R2, ⟨ov, ho⟩, hS, hnB⟩
def Op_lapses (ΓC ΓM : ly) (Sim Sim2 : mm → mm → Prop) : Prop := ∀ (σC σM : mm) (a1 : Int32) , Sim σC σM → ∃ (r : Int32) (σC' σM' : mm), (fX12_lapses ΓC.2 σC 64 a1 = some (r, σC')) ∧ (fX13_lapses ΓM.2 σM 64 a1 = some (r, σM')) ∧ Sim2 σC' σM'
theorem law_lapses {p : Program} {l : Launch} {e : Env} {s : State} {m : MethodId} {b : Nat} {below : List Frame} {meth : Method} {c : Code} {H : Heap} {locs : List Loc} {k n : Nat} {Z : State → Prop} {ls : Array Slot} {L : Nat} {xs : Nat → Int32} {GC GM : gg} {ΓC ΓM : ly} {σC σM : mm} {cJ : ClassId} {qo i : Nat} {Sim Sim2 : mm → mm → Prop} {NB : Heap → Prop} (hnb : NBs GC GM qo NB) (hop : Op_lapses ΓC ΓM Sim Sim2) (hx : p.tables.exec = Jvm.exec) (hb : c.code = code) (hml : c.maxLocals = 7) (hown : s.vm.findClass RL = some m.cls) (hts : ∀ w ∈ lw_tbl, w.before #[Value.ref b] s = true) (hX : va_X b L xs s s.heap) (hbl : b < s.heap.size) (hL3 : L ≤ 3072) (F : LF GC GM cJ qo s) (tx : tyOK ΓC (0, 11) 64) (tm : tyOK ΓM (0, 12) 64) (hi : i + 6 ≤ L) (hk : k ≤ 601024) (hn : n ≤ 7293034) (hs : Sim σC σM) (I : LSt GC GM ΓC σC ΓM σM cJ qo NB s H locs) (hl : lv_has ls 7 [(0, .ref b), (1, .ref (GC.2.1 64)), (2, .ref (GM.2.1 64)), (3, .ref qo), (4, .int (nI i))])
    (kk : ∀ (σC' σM' : mm) (H1 : Heap) (locs1 : List Loc), Sim2 σC' σM' → LSt GC GM ΓC σC' ΓM σM' cJ qo NB s H1 locs1 → W p l e room_1 s m #[Value.ref b] below meth c H1 locs1 k n Z (F0 m 1492 ls [])) : W p l e room_1 s m #[Value.ref b] below meth c H locs k n Z (F0 m 770 ls []) := by
  obtain ⟨R1, R2, ⟨ov, ho⟩, hS, hnB⟩ := I
  obtain ⟨k1, k2, f1, f2, b1, b2, b3, b4, b5, b6⟩ := F
  obtain ⟨r, σC', σM', e1, e2, hs'⟩ := hop σC σM (xs (i + 1)) hs
  refine lv_aload_n hx hb dL_770 rfl (lv_at hl 1 rfl) ?_
  refine L_arg 1 0 4 hx hb hX hbl hL3 hS hl rfl rfl (by omega) (by decide) dL_771 dL_772 dL_774 dL_775 dL_776 ?_
  refine L_call (G := GC) (Γ := ΓC) (σ := σC) (σ2 := σC') (a := 64) (ci := 11) (r := r) [.int (xs (i + 1))] hx hb hml hown hts dL_777 cvL_94 rfl rfl tx rfl rfl (Nat.le_of_ble_eq_true rfl) R1 k1 b1 hS hl.1 hk hn (kX12_lapses 2047 (by decide) 64 (xs (i + 1)) tx (r, σC') e1) (fun H1 locs1 R1 z1 o1 hS => ?_)
  have R2 := R2.off (H1 := H1) f2 k2.2.1 (fun q9 hq (w : g_own GM q9) => o1 q9 hq (fun (w2 : g_own GC q9) => by have := w.1; have := w2.2.1; omega))
  have hnB := hnb H H1 hnB z1 (fun q9 h1 h2 _ _ => o1 q9 h1 h2)
  have ho : H1[qo]? = _ := (o1 qo (Array.getElem?_eq_some_iff.mp ho).1 (fun (w2 : g_own GC qo) => by have := w2.2.1; omega)).trans ho
  refine lv_aload_n hx hb dL_780 rfl (lv_at hl 2 rfl) ?_
  refine L_arg 1 0 4 hx hb hX hbl hL3 hS hl rfl rfl (by omega) (by decide) dL_781 dL_782 dL_784 dL_785 dL_786 ?_
  refine L_call (G := GM) (Γ := ΓM) (σ := σM) (σ2 := σM') (a := 64) (ci := 12) (r := r) [.int (xs (i + 1))] hx hb hml hown hts dL_787 cvL_97 rfl rfl tm rfl rfl (Nat.le_of_ble_eq_true rfl) R2 k2 b2 hS hl.1 hk hn (kX13_lapses 2047 (by decide) 64 (xs (i + 1)) tm (r, σM') e2) (fun H2 locs2 R2 z2 o2 hS => ?_)
  have R1 := R1.off (H1 := H2) f1 k1.2.1 (fun q9 hq (w : g_own GC q9) => o2 q9 hq (fun (w2 : g_own GM q9) => by have := w.2.1; have := w2.1; omega))
  have hnB := hnb H1 H2 hnB z2 (fun q9 h1 _ h2 _ => o2 q9 h1 h2)
  have ho : H2[qo]? = _ := (o2 qo (Array.getElem?_eq_some_iff.mp ho).1 (fun (w2 : g_own GM qo) => by have := w2.2.1; omega)).trans ho
  refine lv_icmp_eq (tgt := 1492) hx hb dL_790 (by decide) (fun _ => ?_) (fun w => absurd rfl w)
  exact kk _ _ H2 locs2 hs' ⟨R1, R2, ⟨ov, ho⟩, hS, hnB⟩
def Op_soonest (ΓC ΓM : ly) (Sim Sim2 : mm → mm → Prop) : Prop := ∀ (σC σM : mm) , Sim σC σM → ∃ (r : Int32) (σC' σM' : mm), (fX12_soonest ΓC.2 σC 64  = some (r, σC')) ∧ (fX13_soonest ΓM.2 σM 64  = some (r, σM')) ∧ Sim2 σC' σM'
theorem law_soonest {p : Program} {l : Launch} {e : Env} {s : State} {m : MethodId} {b : Nat} {below : List Frame} {meth : Method} {c : Code} {H : Heap} {locs : List Loc} {k n : Nat} {Z : State → Prop} {ls : Array Slot} {L : Nat} {xs : Nat → Int32} {GC GM : gg} {ΓC ΓM : ly} {σC σM : mm} {cJ : ClassId} {qo i : Nat} {Sim Sim2 : mm → mm → Prop} {NB : Heap → Prop} (hnb : NBs GC GM qo NB) (hop : Op_soonest ΓC ΓM Sim Sim2) (hx : p.tables.exec = Jvm.exec) (hb : c.code = code) (hml : c.maxLocals = 7) (hown : s.vm.findClass RL = some m.cls) (hts : ∀ w ∈ lw_tbl, w.before #[Value.ref b] s = true) (hX : va_X b L xs s s.heap) (hbl : b < s.heap.size) (hL3 : L ≤ 3072) (F : LF GC GM cJ qo s) (tx : tyOK ΓC (0, 11) 64) (tm : tyOK ΓM (0, 12) 64) (hi : i + 6 ≤ L) (hk : k ≤ 601024) (hn : n ≤ 7293034) (hs : Sim σC σM) (I : LSt GC GM ΓC σC ΓM σM cJ qo NB s H locs) (hl : lv_has ls 7 [(0, .ref b), (1, .ref (GC.2.1 64)), (2, .ref (GM.2.1 64)), (3, .ref qo), (4, .int (nI i))])
    (kk : ∀ (σC' σM' : mm) (H1 : Heap) (locs1 : List Loc), Sim2 σC' σM' → LSt GC GM ΓC σC' ΓM σM' cJ qo NB s H1 locs1 → W p l e room_1 s m #[Value.ref b] below meth c H1 locs1 k n Z (F0 m 1492 ls [])) : W p l e room_1 s m #[Value.ref b] below meth c H locs k n Z (F0 m 795 ls []) := by
  obtain ⟨R1, R2, ⟨ov, ho⟩, hS, hnB⟩ := I
  obtain ⟨k1, k2, f1, f2, b1, b2, b3, b4, b5, b6⟩ := F
  obtain ⟨r, σC', σM', e1, e2, hs'⟩ := hop σC σM  hs
  refine lv_aload_n hx hb dL_795 rfl (lv_at hl 1 rfl) ?_
  refine L_call (G := GC) (Γ := ΓC) (σ := σC) (σ2 := σC') (a := 64) (ci := 11) (r := r) [] hx hb hml hown hts dL_796 cvL_98 rfl rfl tx rfl rfl (Nat.le_of_ble_eq_true rfl) R1 k1 b1 hS hl.1 hk hn (kX12_soonest 2047 (by decide) 64  tx (r, σC') e1) (fun H1 locs1 R1 z1 o1 hS => ?_)
  have R2 := R2.off (H1 := H1) f2 k2.2.1 (fun q9 hq (w : g_own GM q9) => o1 q9 hq (fun (w2 : g_own GC q9) => by have := w.1; have := w2.2.1; omega))
  have hnB := hnb H H1 hnB z1 (fun q9 h1 h2 _ _ => o1 q9 h1 h2)
  have ho : H1[qo]? = _ := (o1 qo (Array.getElem?_eq_some_iff.mp ho).1 (fun (w2 : g_own GC qo) => by have := w2.2.1; omega)).trans ho
  refine lv_aload_n hx hb dL_799 rfl (lv_at hl 2 rfl) ?_
  refine L_call (G := GM) (Γ := ΓM) (σ := σM) (σ2 := σM') (a := 64) (ci := 12) (r := r) [] hx hb hml hown hts dL_800 cvL_101 rfl rfl tm rfl rfl (Nat.le_of_ble_eq_true rfl) R2 k2 b2 hS hl.1 hk hn (kX13_soonest 2047 (by decide) 64  tm (r, σM') e2) (fun H2 locs2 R2 z2 o2 hS => ?_)
  have R1 := R1.off (H1 := H2) f1 k1.2.1 (fun q9 hq (w : g_own GC q9) => o2 q9 hq (fun (w2 : g_own GM q9) => by have := w.2.1; have := w2.1; omega))
  have hnB := hnb H1 H2 hnB z2 (fun q9 h1 _ h2 _ => o2 q9 h1 h2)
  have ho : H2[qo]? = _ := (o2 qo (Array.getElem?_eq_some_iff.mp ho).1 (fun (w2 : g_own GM qo) => by have := w2.2.1; omega)).trans ho
  refine lv_icmp_eq (tgt := 1492) hx hb dL_803 (by decide) (fun _ => ?_) (fun w => absurd rfl w)
  exact kk _ _ H2 locs2 hs' ⟨R1, R2, ⟨ov, ho⟩, hS, hnB⟩
def Op_watch (ΓC ΓM : ly) (Sim Sim2 : mm → mm → Prop) : Prop := ∀ (σC σM : mm) (a1 a2 : Int32) , Sim σC σM → ∃ (r : Int32) (σC' σM' : mm), (fX12_watch ΓC.2 σC 64 a1 a2 = some (r, σC')) ∧ (fX13_watch ΓM.2 σM 64 a1 a2 = some (r, σM')) ∧ Sim2 σC' σM'
theorem law_watch {p : Program} {l : Launch} {e : Env} {s : State} {m : MethodId} {b : Nat} {below : List Frame} {meth : Method} {c : Code} {H : Heap} {locs : List Loc} {k n : Nat} {Z : State → Prop} {ls : Array Slot} {L : Nat} {xs : Nat → Int32} {GC GM : gg} {ΓC ΓM : ly} {σC σM : mm} {cJ : ClassId} {qo i : Nat} {Sim Sim2 : mm → mm → Prop} {NB : Heap → Prop} (hnb : NBs GC GM qo NB) (hop : Op_watch ΓC ΓM Sim Sim2) (hx : p.tables.exec = Jvm.exec) (hb : c.code = code) (hml : c.maxLocals = 7) (hown : s.vm.findClass RL = some m.cls) (hts : ∀ w ∈ lw_tbl, w.before #[Value.ref b] s = true) (hX : va_X b L xs s s.heap) (hbl : b < s.heap.size) (hL3 : L ≤ 3072) (F : LF GC GM cJ qo s) (tx : tyOK ΓC (0, 11) 64) (tm : tyOK ΓM (0, 12) 64) (hi : i + 6 ≤ L) (hk : k ≤ 601024) (hn : n ≤ 7293034) (hs : Sim σC σM) (I : LSt GC GM ΓC σC ΓM σM cJ qo NB s H locs) (hl : lv_has ls 7 [(0, .ref b), (1, .ref (GC.2.1 64)), (2, .ref (GM.2.1 64)), (3, .ref qo), (4, .int (nI i))])
    (kk : ∀ (σC' σM' : mm) (H1 : Heap) (locs1 : List Loc), Sim2 σC' σM' → LSt GC GM ΓC σC' ΓM σM' cJ qo NB s H1 locs1 → W p l e room_1 s m #[Value.ref b] below meth c H1 locs1 k n Z (F0 m 1492 ls [])) : W p l e room_1 s m #[Value.ref b] below meth c H locs k n Z (F0 m 808 ls []) := by
  obtain ⟨R1, R2, ⟨ov, ho⟩, hS, hnB⟩ := I
  obtain ⟨k1, k2, f1, f2, b1, b2, b3, b4, b5, b6⟩ := F
  obtain ⟨r, σC', σM', e1, e2, hs'⟩ := hop σC σM (xs (i + 1)) (xs (i + 2)) hs
  refine lv_aload_n hx hb dL_808 rfl (lv_at hl 1 rfl) ?_
  refine L_arg 1 0 4 hx hb hX hbl hL3 hS hl rfl rfl (by omega) (by decide) dL_809 dL_810 dL_812 dL_813 dL_814 ?_
  refine L_arg 2 0 4 hx hb hX hbl hL3 hS hl rfl rfl (by omega) (by decide) dL_815 dL_816 dL_818 dL_819 dL_820 ?_
  refine L_call (G := GC) (Γ := ΓC) (σ := σC) (σ2 := σC') (a := 64) (ci := 11) (r := r) [.int (xs (i + 1)), .int (xs (i + 2))] hx hb hml hown hts dL_821 cvL_102 rfl rfl tx rfl rfl (Nat.le_of_ble_eq_true rfl) R1 k1 b1 hS hl.1 hk hn (kX12_watch 2047 (by decide) 64 (xs (i + 1)) (xs (i + 2)) tx (r, σC') e1) (fun H1 locs1 R1 z1 o1 hS => ?_)
  have R2 := R2.off (H1 := H1) f2 k2.2.1 (fun q9 hq (w : g_own GM q9) => o1 q9 hq (fun (w2 : g_own GC q9) => by have := w.1; have := w2.2.1; omega))
  have hnB := hnb H H1 hnB z1 (fun q9 h1 h2 _ _ => o1 q9 h1 h2)
  have ho : H1[qo]? = _ := (o1 qo (Array.getElem?_eq_some_iff.mp ho).1 (fun (w2 : g_own GC qo) => by have := w2.2.1; omega)).trans ho
  refine lv_aload_n hx hb dL_824 rfl (lv_at hl 2 rfl) ?_
  refine L_arg 1 0 4 hx hb hX hbl hL3 hS hl rfl rfl (by omega) (by decide) dL_825 dL_826 dL_828 dL_829 dL_830 ?_
  refine L_arg 2 0 4 hx hb hX hbl hL3 hS hl rfl rfl (by omega) (by decide) dL_831 dL_832 dL_834 dL_835 dL_836 ?_
  refine L_call (G := GM) (Γ := ΓM) (σ := σM) (σ2 := σM') (a := 64) (ci := 12) (r := r) [.int (xs (i + 1)), .int (xs (i + 2))] hx hb hml hown hts dL_837 cvL_105 rfl rfl tm rfl rfl (Nat.le_of_ble_eq_true rfl) R2 k2 b2 hS hl.1 hk hn (kX13_watch 2047 (by decide) 64 (xs (i + 1)) (xs (i + 2)) tm (r, σM') e2) (fun H2 locs2 R2 z2 o2 hS => ?_)
  have R1 := R1.off (H1 := H2) f1 k1.2.1 (fun q9 hq (w : g_own GC q9) => o2 q9 hq (fun (w2 : g_own GM q9) => by have := w.2.1; have := w2.1; omega))
  have hnB := hnb H1 H2 hnB z2 (fun q9 h1 _ h2 _ => o2 q9 h1 h2)
  have ho : H2[qo]? = _ := (o2 qo (Array.getElem?_eq_some_iff.mp ho).1 (fun (w2 : g_own GM qo) => by have := w2.2.1; omega)).trans ho
  refine lv_icmp_eq (tgt := 1492) hx hb dL_840 (by decide) (fun _ => ?_) (fun w => absurd rfl w)
  exact kk _ _ H2 locs2 hs' ⟨R1, R2, ⟨ov, ho⟩, hS, hnB⟩
def Op_waking (ΓC ΓM : ly) (Sim Sim2 : mm → mm → Prop) : Prop := ∀ (σC σM : mm) (a1 : Int32) , Sim σC σM → ∃ (r : Int32) (σC' σM' : mm), (fX12_waking ΓC.2 σC 64 a1 = some r ∧ σC' = σC) ∧ (fX13_waking ΓM.2 σM 64 a1 = some (r, σM')) ∧ Sim2 σC' σM'
theorem law_waking {p : Program} {l : Launch} {e : Env} {s : State} {m : MethodId} {b : Nat} {below : List Frame} {meth : Method} {c : Code} {H : Heap} {locs : List Loc} {k n : Nat} {Z : State → Prop} {ls : Array Slot} {L : Nat} {xs : Nat → Int32} {GC GM : gg} {ΓC ΓM : ly} {σC σM : mm} {cJ : ClassId} {qo i : Nat} {Sim Sim2 : mm → mm → Prop} {NB : Heap → Prop} (hnb : NBs GC GM qo NB) (hop : Op_waking ΓC ΓM Sim Sim2) (hx : p.tables.exec = Jvm.exec) (hb : c.code = code) (hml : c.maxLocals = 7) (hown : s.vm.findClass RL = some m.cls) (hts : ∀ w ∈ lw_tbl, w.before #[Value.ref b] s = true) (hX : va_X b L xs s s.heap) (hbl : b < s.heap.size) (hL3 : L ≤ 3072) (F : LF GC GM cJ qo s) (tx : tyOK ΓC (0, 11) 64) (tm : tyOK ΓM (0, 12) 64) (hi : i + 6 ≤ L) (hk : k ≤ 601024) (hn : n ≤ 7293034) (hs : Sim σC σM) (I : LSt GC GM ΓC σC ΓM σM cJ qo NB s H locs) (hl : lv_has ls 7 [(0, .ref b), (1, .ref (GC.2.1 64)), (2, .ref (GM.2.1 64)), (3, .ref qo), (4, .int (nI i))])
    (kk : ∀ (σC' σM' : mm) (H1 : Heap) (locs1 : List Loc), Sim2 σC' σM' → LSt GC GM ΓC σC' ΓM σM' cJ qo NB s H1 locs1 → W p l e room_1 s m #[Value.ref b] below meth c H1 locs1 k n Z (F0 m 1492 ls [])) : W p l e room_1 s m #[Value.ref b] below meth c H locs k n Z (F0 m 845 ls []) := by
  obtain ⟨R1, R2, ⟨ov, ho⟩, hS, hnB⟩ := I
  obtain ⟨k1, k2, f1, f2, b1, b2, b3, b4, b5, b6⟩ := F
  obtain ⟨r, σC', σM', e1, e2, hs'⟩ := hop σC σM (xs (i + 1)) hs
  refine lv_aload_n hx hb dL_845 rfl (lv_at hl 1 rfl) ?_
  refine L_arg 1 0 4 hx hb hX hbl hL3 hS hl rfl rfl (by omega) (by decide) dL_846 dL_847 dL_849 dL_850 dL_851 ?_
  obtain ⟨e1, q1⟩ := e1
  rw [q1] at hs'
  refine L_call (G := GC) (Γ := ΓC) (σ := σC) (σ2 := σC) (a := 64) (ci := 11) (r := r) [.int (xs (i + 1))] hx hb hml hown hts dL_852 cvL_106 rfl rfl tx rfl rfl (Nat.le_of_ble_eq_true rfl) R1 k1 b1 hS hl.1 hk hn (kX12_waking 2047 (by decide) 64 (xs (i + 1)) tx r e1) (fun H1 locs1 R1 z1 o1 hS => ?_)
  have R2 := R2.off (H1 := H1) f2 k2.2.1 (fun q9 hq (w : g_own GM q9) => o1 q9 hq (fun (w2 : g_own GC q9) => by have := w.1; have := w2.2.1; omega))
  have hnB := hnb H H1 hnB z1 (fun q9 h1 h2 _ _ => o1 q9 h1 h2)
  have ho : H1[qo]? = _ := (o1 qo (Array.getElem?_eq_some_iff.mp ho).1 (fun (w2 : g_own GC qo) => by have := w2.2.1; omega)).trans ho
  refine lv_aload_n hx hb dL_855 rfl (lv_at hl 2 rfl) ?_
  refine L_arg 1 0 4 hx hb hX hbl hL3 hS hl rfl rfl (by omega) (by decide) dL_856 dL_857 dL_859 dL_860 dL_861 ?_
  refine L_call (G := GM) (Γ := ΓM) (σ := σM) (σ2 := σM') (a := 64) (ci := 12) (r := r) [.int (xs (i + 1))] hx hb hml hown hts dL_862 cvL_109 rfl rfl tm rfl rfl (Nat.le_of_ble_eq_true rfl) R2 k2 b2 hS hl.1 hk hn (kX13_waking 2047 (by decide) 64 (xs (i + 1)) tm (r, σM') e2) (fun H2 locs2 R2 z2 o2 hS => ?_)
  have R1 := R1.off (H1 := H2) f1 k1.2.1 (fun q9 hq (w : g_own GC q9) => o2 q9 hq (fun (w2 : g_own GM q9) => by have := w.2.1; have := w2.1; omega))
  have hnB := hnb H1 H2 hnB z2 (fun q9 h1 _ h2 _ => o2 q9 h1 h2)
  have ho : H2[qo]? = _ := (o2 qo (Array.getElem?_eq_some_iff.mp ho).1 (fun (w2 : g_own GM qo) => by have := w2.2.1; omega)).trans ho
  refine lv_icmp_eq (tgt := 1492) hx hb dL_865 (by decide) (fun _ => ?_) (fun w => absurd rfl w)
  exact kk _ _ H2 locs2 hs' ⟨R1, R2, ⟨ov, ho⟩, hS, hnB⟩
def Op_chosen (ΓC ΓM : ly) (Sim Sim2 : mm → mm → Prop) : Prop := ∀ (σC σM : mm) (a1 : Int32) , Sim σC σM → ∃ (r : Int32) (σC' σM' : mm), (fX12_chosen ΓC.2 σC 64 a1 = some (r, σC')) ∧ (fX13_chosen ΓM.2 σM 64 a1 = some (r, σM')) ∧ Sim2 σC' σM'
theorem law_chosen {p : Program} {l : Launch} {e : Env} {s : State} {m : MethodId} {b : Nat} {below : List Frame} {meth : Method} {c : Code} {H : Heap} {locs : List Loc} {k n : Nat} {Z : State → Prop} {ls : Array Slot} {L : Nat} {xs : Nat → Int32} {GC GM : gg} {ΓC ΓM : ly} {σC σM : mm} {cJ : ClassId} {qo i : Nat} {Sim Sim2 : mm → mm → Prop} {NB : Heap → Prop} (hnb : NBs GC GM qo NB) (hop : Op_chosen ΓC ΓM Sim Sim2) (hx : p.tables.exec = Jvm.exec) (hb : c.code = code) (hml : c.maxLocals = 7) (hown : s.vm.findClass RL = some m.cls) (hts : ∀ w ∈ lw_tbl, w.before #[Value.ref b] s = true) (hX : va_X b L xs s s.heap) (hbl : b < s.heap.size) (hL3 : L ≤ 3072) (F : LF GC GM cJ qo s) (tx : tyOK ΓC (0, 11) 64) (tm : tyOK ΓM (0, 12) 64) (hi : i + 6 ≤ L) (hk : k ≤ 601024) (hn : n ≤ 7293034) (hs : Sim σC σM) (I : LSt GC GM ΓC σC ΓM σM cJ qo NB s H locs) (hl : lv_has ls 7 [(0, .ref b), (1, .ref (GC.2.1 64)), (2, .ref (GM.2.1 64)), (3, .ref qo), (4, .int (nI i))])
    (kk : ∀ (σC' σM' : mm) (H1 : Heap) (locs1 : List Loc), Sim2 σC' σM' → LSt GC GM ΓC σC' ΓM σM' cJ qo NB s H1 locs1 → W p l e room_1 s m #[Value.ref b] below meth c H1 locs1 k n Z (F0 m 1492 ls [])) : W p l e room_1 s m #[Value.ref b] below meth c H locs k n Z (F0 m 870 ls []) := by
  obtain ⟨R1, R2, ⟨ov, ho⟩, hS, hnB⟩ := I
  obtain ⟨k1, k2, f1, f2, b1, b2, b3, b4, b5, b6⟩ := F
  obtain ⟨r, σC', σM', e1, e2, hs'⟩ := hop σC σM (xs (i + 1)) hs
  refine lv_aload_n hx hb dL_870 rfl (lv_at hl 1 rfl) ?_
  refine L_arg 1 0 4 hx hb hX hbl hL3 hS hl rfl rfl (by omega) (by decide) dL_871 dL_872 dL_874 dL_875 dL_876 ?_
  refine L_call (G := GC) (Γ := ΓC) (σ := σC) (σ2 := σC') (a := 64) (ci := 11) (r := r) [.int (xs (i + 1))] hx hb hml hown hts dL_877 cvL_110 rfl rfl tx rfl rfl (Nat.le_of_ble_eq_true rfl) R1 k1 b1 hS hl.1 hk hn (kX12_chosen 2047 (by decide) 64 (xs (i + 1)) tx (r, σC') e1) (fun H1 locs1 R1 z1 o1 hS => ?_)
  have R2 := R2.off (H1 := H1) f2 k2.2.1 (fun q9 hq (w : g_own GM q9) => o1 q9 hq (fun (w2 : g_own GC q9) => by have := w.1; have := w2.2.1; omega))
  have hnB := hnb H H1 hnB z1 (fun q9 h1 h2 _ _ => o1 q9 h1 h2)
  have ho : H1[qo]? = _ := (o1 qo (Array.getElem?_eq_some_iff.mp ho).1 (fun (w2 : g_own GC qo) => by have := w2.2.1; omega)).trans ho
  refine lv_aload_n hx hb dL_880 rfl (lv_at hl 2 rfl) ?_
  refine L_arg 1 0 4 hx hb hX hbl hL3 hS hl rfl rfl (by omega) (by decide) dL_881 dL_882 dL_884 dL_885 dL_886 ?_
  refine L_call (G := GM) (Γ := ΓM) (σ := σM) (σ2 := σM') (a := 64) (ci := 12) (r := r) [.int (xs (i + 1))] hx hb hml hown hts dL_887 cvL_113 rfl rfl tm rfl rfl (Nat.le_of_ble_eq_true rfl) R2 k2 b2 hS hl.1 hk hn (kX13_chosen 2047 (by decide) 64 (xs (i + 1)) tm (r, σM') e2) (fun H2 locs2 R2 z2 o2 hS => ?_)
  have R1 := R1.off (H1 := H2) f1 k1.2.1 (fun q9 hq (w : g_own GC q9) => o2 q9 hq (fun (w2 : g_own GM q9) => by have := w.2.1; have := w2.1; omega))
  have hnB := hnb H1 H2 hnB z2 (fun q9 h1 _ h2 _ => o2 q9 h1 h2)
  have ho : H2[qo]? = _ := (o2 qo (Array.getElem?_eq_some_iff.mp ho).1 (fun (w2 : g_own GM qo) => by have := w2.2.1; omega)).trans ho
  refine lv_icmp_eq (tgt := 1492) hx hb dL_890 (by decide) (fun _ => ?_) (fun w => absurd rfl w)
  exact kk _ _ H2 locs2 hs' ⟨R1, R2, ⟨ov, ho⟩, hS, hnB⟩
def Op_choices (ΓC ΓM : ly) (Sim Sim2 : mm → mm → Prop) : Prop := ∀ (σC σM : mm) (a1 : Int32) , Sim σC σM → ∃ (r : Int32) (σC' σM' : mm), (fX12_choices ΓC.2 σC 64 a1 = some (r, σC')) ∧ (fX13_choices ΓM.2 σM 64 a1 = some (r, σM')) ∧ Sim2 σC' σM'
theorem law_choices {p : Program} {l : Launch} {e : Env} {s : State} {m : MethodId} {b : Nat} {below : List Frame} {meth : Method} {c : Code} {H : Heap} {locs : List Loc} {k n : Nat} {Z : State → Prop} {ls : Array Slot} {L : Nat} {xs : Nat → Int32} {GC GM : gg} {ΓC ΓM : ly} {σC σM : mm} {cJ : ClassId} {qo i : Nat} {Sim Sim2 : mm → mm → Prop} {NB : Heap → Prop} (hnb : NBs GC GM qo NB) (hop : Op_choices ΓC ΓM Sim Sim2) (hx : p.tables.exec = Jvm.exec) (hb : c.code = code) (hml : c.maxLocals = 7) (hown : s.vm.findClass RL = some m.cls) (hts : ∀ w ∈ lw_tbl, w.before #[Value.ref b] s = true) (hX : va_X b L xs s s.heap) (hbl : b < s.heap.size) (hL3 : L ≤ 3072) (F : LF GC GM cJ qo s) (tx : tyOK ΓC (0, 11) 64) (tm : tyOK ΓM (0, 12) 64) (hi : i + 6 ≤ L) (hk : k ≤ 601024) (hn : n ≤ 7293034) (hs : Sim σC σM) (I : LSt GC GM ΓC σC ΓM σM cJ qo NB s H locs) (hl : lv_has ls 7 [(0, .ref b), (1, .ref (GC.2.1 64)), (2, .ref (GM.2.1 64)), (3, .ref qo), (4, .int (nI i))])
    (kk : ∀ (σC' σM' : mm) (H1 : Heap) (locs1 : List Loc), Sim2 σC' σM' → LSt GC GM ΓC σC' ΓM σM' cJ qo NB s H1 locs1 → W p l e room_1 s m #[Value.ref b] below meth c H1 locs1 k n Z (F0 m 1492 ls [])) : W p l e room_1 s m #[Value.ref b] below meth c H locs k n Z (F0 m 895 ls []) := by
  obtain ⟨R1, R2, ⟨ov, ho⟩, hS, hnB⟩ := I
  obtain ⟨k1, k2, f1, f2, b1, b2, b3, b4, b5, b6⟩ := F
  obtain ⟨r, σC', σM', e1, e2, hs'⟩ := hop σC σM (xs (i + 1)) hs
  refine lv_aload_n hx hb dL_895 rfl (lv_at hl 1 rfl) ?_
  refine L_arg 1 0 4 hx hb hX hbl hL3 hS hl rfl rfl (by omega) (by decide) dL_896 dL_897 dL_899 dL_900 dL_901 ?_
  refine L_call (G := GC) (Γ := ΓC) (σ := σC) (σ2 := σC') (a := 64) (ci := 11) (r := r) [.int (xs (i + 1))] hx hb hml hown hts dL_902 cvL_114 rfl rfl tx rfl rfl (Nat.le_of_ble_eq_true rfl) R1 k1 b1 hS hl.1 hk hn (kX12_choices 2047 (by decide) 64 (xs (i + 1)) tx (r, σC') e1) (fun H1 locs1 R1 z1 o1 hS => ?_)
  have R2 := R2.off (H1 := H1) f2 k2.2.1 (fun q9 hq (w : g_own GM q9) => o1 q9 hq (fun (w2 : g_own GC q9) => by have := w.1; have := w2.2.1; omega))
  have hnB := hnb H H1 hnB z1 (fun q9 h1 h2 _ _ => o1 q9 h1 h2)
  have ho : H1[qo]? = _ := (o1 qo (Array.getElem?_eq_some_iff.mp ho).1 (fun (w2 : g_own GC qo) => by have := w2.2.1; omega)).trans ho
  refine lv_aload_n hx hb dL_905 rfl (lv_at hl 2 rfl) ?_
  refine L_arg 1 0 4 hx hb hX hbl hL3 hS hl rfl rfl (by omega) (by decide) dL_906 dL_907 dL_909 dL_910 dL_911 ?_
  refine L_call (G := GM) (Γ := ΓM) (σ := σM) (σ2 := σM') (a := 64) (ci := 12) (r := r) [.int (xs (i + 1))] hx hb hml hown hts dL_912 cvL_117 rfl rfl tm rfl rfl (Nat.le_of_ble_eq_true rfl) R2 k2 b2 hS hl.1 hk hn (kX13_choices 2047 (by decide) 64 (xs (i + 1)) tm (r, σM') e2) (fun H2 locs2 R2 z2 o2 hS => ?_)
  have R1 := R1.off (H1 := H2) f1 k1.2.1 (fun q9 hq (w : g_own GC q9) => o2 q9 hq (fun (w2 : g_own GM q9) => by have := w.2.1; have := w2.1; omega))
  have hnB := hnb H1 H2 hnB z2 (fun q9 h1 _ h2 _ => o2 q9 h1 h2)
  have ho : H2[qo]? = _ := (o2 qo (Array.getElem?_eq_some_iff.mp ho).1 (fun (w2 : g_own GM qo) => by have := w2.2.1; omega)).trans ho
  refine lv_icmp_eq (tgt := 1492) hx hb dL_915 (by decide) (fun _ => ?_) (fun w => absurd rfl w)
  exact kk _ _ H2 locs2 hs' ⟨R1, R2, ⟨ov, ho⟩, hS, hnB⟩
def Op_play (ΓC ΓM : ly) (Sim Sim2 : mm → mm → Prop) : Prop := ∀ (σC σM : mm) (a1 : Int32) , Sim σC σM → ∃ (r : Int32) (σC' σM' : mm), (fX12_play ΓC.2 σC 64 a1 = some (r, σC')) ∧ (fX13_play ΓM.2 σM 64 a1 = some (r, σM')) ∧ Sim2 σC' σM'
theorem law_play {p : Program} {l : Launch} {e : Env} {s : State} {m : MethodId} {b : Nat} {below : List Frame} {meth : Method} {c : Code} {H : Heap} {locs : List Loc} {k n : Nat} {Z : State → Prop} {ls : Array Slot} {L : Nat} {xs : Nat → Int32} {GC GM : gg} {ΓC ΓM : ly} {σC σM : mm} {cJ : ClassId} {qo i : Nat} {Sim Sim2 : mm → mm → Prop} {NB : Heap → Prop} (hnb : NBs GC GM qo NB) (hop : Op_play ΓC ΓM Sim Sim2) (hx : p.tables.exec = Jvm.exec) (hb : c.code = code) (hml : c.maxLocals = 7) (hown : s.vm.findClass RL = some m.cls) (hts : ∀ w ∈ lw_tbl, w.before #[Value.ref b] s = true) (hX : va_X b L xs s s.heap) (hbl : b < s.heap.size) (hL3 : L ≤ 3072) (F : LF GC GM cJ qo s) (tx : tyOK ΓC (0, 11) 64) (tm : tyOK ΓM (0, 12) 64) (hi : i + 6 ≤ L) (hk : k ≤ 601024) (hn : n ≤ 7293034) (hs : Sim σC σM) (I : LSt GC GM ΓC σC ΓM σM cJ qo NB s H locs) (hl : lv_has ls 7 [(0, .ref b), (1, .ref (GC.2.1 64)), (2, .ref (GM.2.1 64)), (3, .ref qo), (4, .int (nI i))])
    (kk : ∀ (σC' σM' : mm) (H1 : Heap) (locs1 : List Loc), Sim2 σC' σM' → LSt GC GM ΓC σC' ΓM σM' cJ qo NB s H1 locs1 → W p l e room_1 s m #[Value.ref b] below meth c H1 locs1 k n Z (F0 m 1492 ls [])) : W p l e room_1 s m #[Value.ref b] below meth c H locs k n Z (F0 m 920 ls []) := by
  obtain ⟨R1, R2, ⟨ov, ho⟩, hS, hnB⟩ := I
  obtain ⟨k1, k2, f1, f2, b1, b2, b3, b4, b5, b6⟩ := F
  obtain ⟨r, σC', σM', e1, e2, hs'⟩ := hop σC σM (xs (i + 1)) hs
  refine lv_aload_n hx hb dL_920 rfl (lv_at hl 1 rfl) ?_
  refine L_arg 1 0 4 hx hb hX hbl hL3 hS hl rfl rfl (by omega) (by decide) dL_921 dL_922 dL_924 dL_925 dL_926 ?_
  refine L_call (G := GC) (Γ := ΓC) (σ := σC) (σ2 := σC') (a := 64) (ci := 11) (r := r) [.int (xs (i + 1))] hx hb hml hown hts dL_927 cvL_118 rfl rfl tx rfl rfl (Nat.le_of_ble_eq_true rfl) R1 k1 b1 hS hl.1 hk hn (kX12_play 2047 (by decide) 64 (xs (i + 1)) tx (r, σC') e1) (fun H1 locs1 R1 z1 o1 hS => ?_)
  have R2 := R2.off (H1 := H1) f2 k2.2.1 (fun q9 hq (w : g_own GM q9) => o1 q9 hq (fun (w2 : g_own GC q9) => by have := w.1; have := w2.2.1; omega))
  have hnB := hnb H H1 hnB z1 (fun q9 h1 h2 _ _ => o1 q9 h1 h2)
  have ho : H1[qo]? = _ := (o1 qo (Array.getElem?_eq_some_iff.mp ho).1 (fun (w2 : g_own GC qo) => by have := w2.2.1; omega)).trans ho
  refine lv_aload_n hx hb dL_930 rfl (lv_at hl 2 rfl) ?_
  refine L_arg 1 0 4 hx hb hX hbl hL3 hS hl rfl rfl (by omega) (by decide) dL_931 dL_932 dL_934 dL_935 dL_936 ?_
  refine L_call (G := GM) (Γ := ΓM) (σ := σM) (σ2 := σM') (a := 64) (ci := 12) (r := r) [.int (xs (i + 1))] hx hb hml hown hts dL_937 cvL_121 rfl rfl tm rfl rfl (Nat.le_of_ble_eq_true rfl) R2 k2 b2 hS hl.1 hk hn (kX13_play 2047 (by decide) 64 (xs (i + 1)) tm (r, σM') e2) (fun H2 locs2 R2 z2 o2 hS => ?_)
  have R1 := R1.off (H1 := H2) f1 k1.2.1 (fun q9 hq (w : g_own GC q9) => o2 q9 hq (fun (w2 : g_own GM q9) => by have := w.2.1; have := w2.1; omega))
  have hnB := hnb H1 H2 hnB z2 (fun q9 h1 _ h2 _ => o2 q9 h1 h2)
  have ho : H2[qo]? = _ := (o2 qo (Array.getElem?_eq_some_iff.mp ho).1 (fun (w2 : g_own GM qo) => by have := w2.2.1; omega)).trans ho
  refine lv_icmp_eq (tgt := 1492) hx hb dL_940 (by decide) (fun _ => ?_) (fun w => absurd rfl w)
  exact kk _ _ H2 locs2 hs' ⟨R1, R2, ⟨ov, ho⟩, hS, hnB⟩
def Op_playAt (ΓC ΓM : ly) (Sim Sim2 : mm → mm → Prop) : Prop := ∀ (σC σM : mm) (a1 : Int32) , Sim σC σM → ∃ (r : Int32) (σC' σM' : mm), (fX12_playAt ΓC.2 σC 64 a1 = some (r, σC')) ∧ (fX13_playAt ΓM.2 σM 64 a1 = some (r, σM')) ∧ Sim2 σC' σM'
theorem law_playAt {p : Program} {l : Launch} {e : Env} {s : State} {m : MethodId} {b : Nat} {below : List Frame} {meth : Method} {c : Code} {H : Heap} {locs : List Loc} {k n : Nat} {Z : State → Prop} {ls : Array Slot} {L : Nat} {xs : Nat → Int32} {GC GM : gg} {ΓC ΓM : ly} {σC σM : mm} {cJ : ClassId} {qo i : Nat} {Sim Sim2 : mm → mm → Prop} {NB : Heap → Prop} (hnb : NBs GC GM qo NB) (hop : Op_playAt ΓC ΓM Sim Sim2) (hx : p.tables.exec = Jvm.exec) (hb : c.code = code) (hml : c.maxLocals = 7) (hown : s.vm.findClass RL = some m.cls) (hts : ∀ w ∈ lw_tbl, w.before #[Value.ref b] s = true) (hX : va_X b L xs s s.heap) (hbl : b < s.heap.size) (hL3 : L ≤ 3072) (F : LF GC GM cJ qo s) (tx : tyOK ΓC (0, 11) 64) (tm : tyOK ΓM (0, 12) 64) (hi : i + 6 ≤ L) (hk : k ≤ 601024) (hn : n ≤ 7293034) (hs : Sim σC σM) (I : LSt GC GM ΓC σC ΓM σM cJ qo NB s H locs) (hl : lv_has ls 7 [(0, .ref b), (1, .ref (GC.2.1 64)), (2, .ref (GM.2.1 64)), (3, .ref qo), (4, .int (nI i))])
    (kk : ∀ (σC' σM' : mm) (H1 : Heap) (locs1 : List Loc), Sim2 σC' σM' → LSt GC GM ΓC σC' ΓM σM' cJ qo NB s H1 locs1 → W p l e room_1 s m #[Value.ref b] below meth c H1 locs1 k n Z (F0 m 1492 ls [])) : W p l e room_1 s m #[Value.ref b] below meth c H locs k n Z (F0 m 945 ls []) := by
  obtain ⟨R1, R2, ⟨ov, ho⟩, hS, hnB⟩ := I
  obtain ⟨k1, k2, f1, f2, b1, b2, b3, b4, b5, b6⟩ := F
  obtain ⟨r, σC', σM', e1, e2, hs'⟩ := hop σC σM (xs (i + 1)) hs
  refine lv_aload_n hx hb dL_945 rfl (lv_at hl 1 rfl) ?_
  refine L_arg 1 0 4 hx hb hX hbl hL3 hS hl rfl rfl (by omega) (by decide) dL_946 dL_947 dL_949 dL_950 dL_951 ?_
  refine L_call (G := GC) (Γ := ΓC) (σ := σC) (σ2 := σC') (a := 64) (ci := 11) (r := r) [.int (xs (i + 1))] hx hb hml hown hts dL_952 cvL_122 rfl rfl tx rfl rfl (Nat.le_of_ble_eq_true rfl) R1 k1 b1 hS hl.1 hk hn (kX12_playAt 2047 (by decide) 64 (xs (i + 1)) tx (r, σC') e1) (fun H1 locs1 R1 z1 o1 hS => ?_)
  have R2 := R2.off (H1 := H1) f2 k2.2.1 (fun q9 hq (w : g_own GM q9) => o1 q9 hq (fun (w2 : g_own GC q9) => by have := w.1; have := w2.2.1; omega))
  have hnB := hnb H H1 hnB z1 (fun q9 h1 h2 _ _ => o1 q9 h1 h2)
  have ho : H1[qo]? = _ := (o1 qo (Array.getElem?_eq_some_iff.mp ho).1 (fun (w2 : g_own GC qo) => by have := w2.2.1; omega)).trans ho
  refine lv_aload_n hx hb dL_955 rfl (lv_at hl 2 rfl) ?_
  refine L_arg 1 0 4 hx hb hX hbl hL3 hS hl rfl rfl (by omega) (by decide) dL_956 dL_957 dL_959 dL_960 dL_961 ?_
  refine L_call (G := GM) (Γ := ΓM) (σ := σM) (σ2 := σM') (a := 64) (ci := 12) (r := r) [.int (xs (i + 1))] hx hb hml hown hts dL_962 cvL_125 rfl rfl tm rfl rfl (Nat.le_of_ble_eq_true rfl) R2 k2 b2 hS hl.1 hk hn (kX13_playAt 2047 (by decide) 64 (xs (i + 1)) tm (r, σM') e2) (fun H2 locs2 R2 z2 o2 hS => ?_)
  have R1 := R1.off (H1 := H2) f1 k1.2.1 (fun q9 hq (w : g_own GC q9) => o2 q9 hq (fun (w2 : g_own GM q9) => by have := w.2.1; have := w2.1; omega))
  have hnB := hnb H1 H2 hnB z2 (fun q9 h1 _ h2 _ => o2 q9 h1 h2)
  have ho : H2[qo]? = _ := (o2 qo (Array.getElem?_eq_some_iff.mp ho).1 (fun (w2 : g_own GM qo) => by have := w2.2.1; omega)).trans ho
  refine lv_icmp_eq (tgt := 1492) hx hb dL_965 (by decide) (fun _ => ?_) (fun w => absurd rfl w)
  exact kk _ _ H2 locs2 hs' ⟨R1, R2, ⟨ov, ho⟩, hS, hnB⟩
def Op_steal (ΓC ΓM : ly) (Sim Sim2 : mm → mm → Prop) : Prop := ∀ (σC σM : mm) (a1 a2 : Int32) , Sim σC σM → ∃ (r : Int32) (σC' σM' : mm), (fX12_steal ΓC.2 σC 64 a1 a2 = some (r, σC')) ∧ (fX13_steal ΓM.2 σM 64 a1 a2 = some (r, σM')) ∧ Sim2 σC' σM'
theorem law_steal {p : Program} {l : Launch} {e : Env} {s : State} {m : MethodId} {b : Nat} {below : List Frame} {meth : Method} {c : Code} {H : Heap} {locs : List Loc} {k n : Nat} {Z : State → Prop} {ls : Array Slot} {L : Nat} {xs : Nat → Int32} {GC GM : gg} {ΓC ΓM : ly} {σC σM : mm} {cJ : ClassId} {qo i : Nat} {Sim Sim2 : mm → mm → Prop} {NB : Heap → Prop} (hnb : NBs GC GM qo NB) (hop : Op_steal ΓC ΓM Sim Sim2) (hx : p.tables.exec = Jvm.exec) (hb : c.code = code) (hml : c.maxLocals = 7) (hown : s.vm.findClass RL = some m.cls) (hts : ∀ w ∈ lw_tbl, w.before #[Value.ref b] s = true) (hX : va_X b L xs s s.heap) (hbl : b < s.heap.size) (hL3 : L ≤ 3072) (F : LF GC GM cJ qo s) (tx : tyOK ΓC (0, 11) 64) (tm : tyOK ΓM (0, 12) 64) (hi : i + 6 ≤ L) (hk : k ≤ 601024) (hn : n ≤ 7293034) (hs : Sim σC σM) (I : LSt GC GM ΓC σC ΓM σM cJ qo NB s H locs) (hl : lv_has ls 7 [(0, .ref b), (1, .ref (GC.2.1 64)), (2, .ref (GM.2.1 64)), (3, .ref qo), (4, .int (nI i))])
    (kk : ∀ (σC' σM' : mm) (H1 : Heap) (locs1 : List Loc), Sim2 σC' σM' → LSt GC GM ΓC σC' ΓM σM' cJ qo NB s H1 locs1 → W p l e room_1 s m #[Value.ref b] below meth c H1 locs1 k n Z (F0 m 1492 ls [])) : W p l e room_1 s m #[Value.ref b] below meth c H locs k n Z (F0 m 970 ls []) := by
  obtain ⟨R1, R2, ⟨ov, ho⟩, hS, hnB⟩ := I
  obtain ⟨k1, k2, f1, f2, b1, b2, b3, b4, b5, b6⟩ := F
  obtain ⟨r, σC', σM', e1, e2, hs'⟩ := hop σC σM (xs (i + 1)) (xs (i + 2)) hs
  refine lv_aload_n hx hb dL_970 rfl (lv_at hl 1 rfl) ?_
  refine L_arg 1 0 4 hx hb hX hbl hL3 hS hl rfl rfl (by omega) (by decide) dL_971 dL_972 dL_974 dL_975 dL_976 ?_
  refine L_arg 2 0 4 hx hb hX hbl hL3 hS hl rfl rfl (by omega) (by decide) dL_977 dL_978 dL_980 dL_981 dL_982 ?_
  refine L_call (G := GC) (Γ := ΓC) (σ := σC) (σ2 := σC') (a := 64) (ci := 11) (r := r) [.int (xs (i + 1)), .int (xs (i + 2))] hx hb hml hown hts dL_983 cvL_126 rfl rfl tx rfl rfl (Nat.le_of_ble_eq_true rfl) R1 k1 b1 hS hl.1 hk hn (kX12_steal 2047 (by decide) 64 (xs (i + 1)) (xs (i + 2)) tx (r, σC') e1) (fun H1 locs1 R1 z1 o1 hS => ?_)
  have R2 := R2.off (H1 := H1) f2 k2.2.1 (fun q9 hq (w : g_own GM q9) => o1 q9 hq (fun (w2 : g_own GC q9) => by have := w.1; have := w2.2.1; omega))
  have hnB := hnb H H1 hnB z1 (fun q9 h1 h2 _ _ => o1 q9 h1 h2)
  have ho : H1[qo]? = _ := (o1 qo (Array.getElem?_eq_some_iff.mp ho).1 (fun (w2 : g_own GC qo) => by have := w2.2.1; omega)).trans ho
  refine lv_aload_n hx hb dL_986 rfl (lv_at hl 2 rfl) ?_
  refine L_arg 1 0 4 hx hb hX hbl hL3 hS hl rfl rfl (by omega) (by decide) dL_987 dL_988 dL_990 dL_991 dL_992 ?_
  refine L_arg 2 0 4 hx hb hX hbl hL3 hS hl rfl rfl (by omega) (by decide) dL_993 dL_994 dL_996 dL_997 dL_998 ?_
  refine L_call (G := GM) (Γ := ΓM) (σ := σM) (σ2 := σM') (a := 64) (ci := 12) (r := r) [.int (xs (i + 1)), .int (xs (i + 2))] hx hb hml hown hts dL_999 cvL_129 rfl rfl tm rfl rfl (Nat.le_of_ble_eq_true rfl) R2 k2 b2 hS hl.1 hk hn (kX13_steal 2047 (by decide) 64 (xs (i + 1)) (xs (i + 2)) tm (r, σM') e2) (fun H2 locs2 R2 z2 o2 hS => ?_)
  have R1 := R1.off (H1 := H2) f1 k1.2.1 (fun q9 hq (w : g_own GC q9) => o2 q9 hq (fun (w2 : g_own GM q9) => by have := w.2.1; have := w2.1; omega))
  have hnB := hnb H1 H2 hnB z2 (fun q9 h1 _ h2 _ => o2 q9 h1 h2)
  have ho : H2[qo]? = _ := (o2 qo (Array.getElem?_eq_some_iff.mp ho).1 (fun (w2 : g_own GM qo) => by have := w2.2.1; omega)).trans ho
  refine lv_icmp_eq (tgt := 1492) hx hb dL_1002 (by decide) (fun _ => ?_) (fun w => absurd rfl w)
  exact kk _ _ H2 locs2 hs' ⟨R1, R2, ⟨ov, ho⟩, hS, hnB⟩
def Op_parts (ΓC ΓM : ly) (Sim Sim2 : mm → mm → Prop) : Prop := ∀ (σC σM : mm) (a1 : Int32) , Sim σC σM → ∃ (r : Int32) (σC' σM' : mm), (fX12_parts ΓC.2 σC 64 a1 = some r ∧ σC' = σC) ∧ (fX13_parts ΓM.2 σM 64 a1 = some (r, σM')) ∧ Sim2 σC' σM'
theorem law_parts {p : Program} {l : Launch} {e : Env} {s : State} {m : MethodId} {b : Nat} {below : List Frame} {meth : Method} {c : Code} {H : Heap} {locs : List Loc} {k n : Nat} {Z : State → Prop} {ls : Array Slot} {L : Nat} {xs : Nat → Int32} {GC GM : gg} {ΓC ΓM : ly} {σC σM : mm} {cJ : ClassId} {qo i : Nat} {Sim Sim2 : mm → mm → Prop} {NB : Heap → Prop} (hnb : NBs GC GM qo NB) (hop : Op_parts ΓC ΓM Sim Sim2) (hx : p.tables.exec = Jvm.exec) (hb : c.code = code) (hml : c.maxLocals = 7) (hown : s.vm.findClass RL = some m.cls) (hts : ∀ w ∈ lw_tbl, w.before #[Value.ref b] s = true) (hX : va_X b L xs s s.heap) (hbl : b < s.heap.size) (hL3 : L ≤ 3072) (F : LF GC GM cJ qo s) (tx : tyOK ΓC (0, 11) 64) (tm : tyOK ΓM (0, 12) 64) (hi : i + 6 ≤ L) (hk : k ≤ 601024) (hn : n ≤ 7293034) (hs : Sim σC σM) (I : LSt GC GM ΓC σC ΓM σM cJ qo NB s H locs) (hl : lv_has ls 7 [(0, .ref b), (1, .ref (GC.2.1 64)), (2, .ref (GM.2.1 64)), (3, .ref qo), (4, .int (nI i))])
    (kk : ∀ (σC' σM' : mm) (H1 : Heap) (locs1 : List Loc), Sim2 σC' σM' → LSt GC GM ΓC σC' ΓM σM' cJ qo NB s H1 locs1 → W p l e room_1 s m #[Value.ref b] below meth c H1 locs1 k n Z (F0 m 1492 ls [])) : W p l e room_1 s m #[Value.ref b] below meth c H locs k n Z (F0 m 1007 ls []) := by
  obtain ⟨R1, R2, ⟨ov, ho⟩, hS, hnB⟩ := I
  obtain ⟨k1, k2, f1, f2, b1, b2, b3, b4, b5, b6⟩ := F
  obtain ⟨r, σC', σM', e1, e2, hs'⟩ := hop σC σM (xs (i + 1)) hs
  refine lv_aload_n hx hb dL_1007 rfl (lv_at hl 1 rfl) ?_
  refine L_arg 1 0 4 hx hb hX hbl hL3 hS hl rfl rfl (by omega) (by decide) dL_1008 dL_1009 dL_1011 dL_1012 dL_1013 ?_
  obtain ⟨e1, q1⟩ := e1
  rw [q1] at hs'
  refine L_call (G := GC) (Γ := ΓC) (σ := σC) (σ2 := σC) (a := 64) (ci := 11) (r := r) [.int (xs (i + 1))] hx hb hml hown hts dL_1014 cvL_130 rfl rfl tx rfl rfl (Nat.le_of_ble_eq_true rfl) R1 k1 b1 hS hl.1 hk hn (kX12_parts 2047 (by decide) 64 (xs (i + 1)) tx r e1) (fun H1 locs1 R1 z1 o1 hS => ?_)
  have R2 := R2.off (H1 := H1) f2 k2.2.1 (fun q9 hq (w : g_own GM q9) => o1 q9 hq (fun (w2 : g_own GC q9) => by have := w.1; have := w2.2.1; omega))
  have hnB := hnb H H1 hnB z1 (fun q9 h1 h2 _ _ => o1 q9 h1 h2)
  have ho : H1[qo]? = _ := (o1 qo (Array.getElem?_eq_some_iff.mp ho).1 (fun (w2 : g_own GC qo) => by have := w2.2.1; omega)).trans ho
  refine lv_aload_n hx hb dL_1017 rfl (lv_at hl 2 rfl) ?_
  refine L_arg 1 0 4 hx hb hX hbl hL3 hS hl rfl rfl (by omega) (by decide) dL_1018 dL_1019 dL_1021 dL_1022 dL_1023 ?_
  refine L_call (G := GM) (Γ := ΓM) (σ := σM) (σ2 := σM') (a := 64) (ci := 12) (r := r) [.int (xs (i + 1))] hx hb hml hown hts dL_1024 cvL_133 rfl rfl tm rfl rfl (Nat.le_of_ble_eq_true rfl) R2 k2 b2 hS hl.1 hk hn (kX13_parts 2047 (by decide) 64 (xs (i + 1)) tm (r, σM') e2) (fun H2 locs2 R2 z2 o2 hS => ?_)
  have R1 := R1.off (H1 := H2) f1 k1.2.1 (fun q9 hq (w : g_own GC q9) => o2 q9 hq (fun (w2 : g_own GM q9) => by have := w.2.1; have := w2.1; omega))
  have hnB := hnb H1 H2 hnB z2 (fun q9 h1 _ h2 _ => o2 q9 h1 h2)
  have ho : H2[qo]? = _ := (o2 qo (Array.getElem?_eq_some_iff.mp ho).1 (fun (w2 : g_own GM qo) => by have := w2.2.1; omega)).trans ho
  refine lv_icmp_eq (tgt := 1492) hx hb dL_1027 (by decide) (fun _ => ?_) (fun w => absurd rfl w)
  exact kk _ _ H2 locs2 hs' ⟨R1, R2, ⟨ov, ho⟩, hS, hnB⟩
def Op_parted (ΓC ΓM : ly) (Sim Sim2 : mm → mm → Prop) : Prop := ∀ (σC σM : mm) (a1 : Int32) , Sim σC σM → ∃ (r : Int32) (σC' σM' : mm), (fX12_parted ΓC.2 σC 64 a1 = some r ∧ σC' = σC) ∧ (fX13_parted ΓM.2 σM 64 a1 = some (r, σM')) ∧ Sim2 σC' σM'
theorem law_parted {p : Program} {l : Launch} {e : Env} {s : State} {m : MethodId} {b : Nat} {below : List Frame} {meth : Method} {c : Code} {H : Heap} {locs : List Loc} {k n : Nat} {Z : State → Prop} {ls : Array Slot} {L : Nat} {xs : Nat → Int32} {GC GM : gg} {ΓC ΓM : ly} {σC σM : mm} {cJ : ClassId} {qo i : Nat} {Sim Sim2 : mm → mm → Prop} {NB : Heap → Prop} (hnb : NBs GC GM qo NB) (hop : Op_parted ΓC ΓM Sim Sim2) (hx : p.tables.exec = Jvm.exec) (hb : c.code = code) (hml : c.maxLocals = 7) (hown : s.vm.findClass RL = some m.cls) (hts : ∀ w ∈ lw_tbl, w.before #[Value.ref b] s = true) (hX : va_X b L xs s s.heap) (hbl : b < s.heap.size) (hL3 : L ≤ 3072) (F : LF GC GM cJ qo s) (tx : tyOK ΓC (0, 11) 64) (tm : tyOK ΓM (0, 12) 64) (hi : i + 6 ≤ L) (hk : k ≤ 601024) (hn : n ≤ 7293034) (hs : Sim σC σM) (I : LSt GC GM ΓC σC ΓM σM cJ qo NB s H locs) (hl : lv_has ls 7 [(0, .ref b), (1, .ref (GC.2.1 64)), (2, .ref (GM.2.1 64)), (3, .ref qo), (4, .int (nI i))])
    (kk : ∀ (σC' σM' : mm) (H1 : Heap) (locs1 : List Loc), Sim2 σC' σM' → LSt GC GM ΓC σC' ΓM σM' cJ qo NB s H1 locs1 → W p l e room_1 s m #[Value.ref b] below meth c H1 locs1 k n Z (F0 m 1492 ls [])) : W p l e room_1 s m #[Value.ref b] below meth c H locs k n Z (F0 m 1032 ls []) := by
  obtain ⟨R1, R2, ⟨ov, ho⟩, hS, hnB⟩ := I
  obtain ⟨k1, k2, f1, f2, b1, b2, b3, b4, b5, b6⟩ := F
  obtain ⟨r, σC', σM', e1, e2, hs'⟩ := hop σC σM (xs (i + 1)) hs
  refine lv_aload_n hx hb dL_1032 rfl (lv_at hl 1 rfl) ?_
  refine L_arg 1 0 4 hx hb hX hbl hL3 hS hl rfl rfl (by omega) (by decide) dL_1033 dL_1034 dL_1036 dL_1037 dL_1038 ?_
  obtain ⟨e1, q1⟩ := e1
  rw [q1] at hs'
  refine L_call (G := GC) (Γ := ΓC) (σ := σC) (σ2 := σC) (a := 64) (ci := 11) (r := r) [.int (xs (i + 1))] hx hb hml hown hts dL_1039 cvL_134 rfl rfl tx rfl rfl (Nat.le_of_ble_eq_true rfl) R1 k1 b1 hS hl.1 hk hn (kX12_parted 2047 (by decide) 64 (xs (i + 1)) tx r e1) (fun H1 locs1 R1 z1 o1 hS => ?_)
  have R2 := R2.off (H1 := H1) f2 k2.2.1 (fun q9 hq (w : g_own GM q9) => o1 q9 hq (fun (w2 : g_own GC q9) => by have := w.1; have := w2.2.1; omega))
  have hnB := hnb H H1 hnB z1 (fun q9 h1 h2 _ _ => o1 q9 h1 h2)
  have ho : H1[qo]? = _ := (o1 qo (Array.getElem?_eq_some_iff.mp ho).1 (fun (w2 : g_own GC qo) => by have := w2.2.1; omega)).trans ho
  refine lv_aload_n hx hb dL_1042 rfl (lv_at hl 2 rfl) ?_
  refine L_arg 1 0 4 hx hb hX hbl hL3 hS hl rfl rfl (by omega) (by decide) dL_1043 dL_1044 dL_1046 dL_1047 dL_1048 ?_
  refine L_call (G := GM) (Γ := ΓM) (σ := σM) (σ2 := σM') (a := 64) (ci := 12) (r := r) [.int (xs (i + 1))] hx hb hml hown hts dL_1049 cvL_137 rfl rfl tm rfl rfl (Nat.le_of_ble_eq_true rfl) R2 k2 b2 hS hl.1 hk hn (kX13_parted 2047 (by decide) 64 (xs (i + 1)) tm (r, σM') e2) (fun H2 locs2 R2 z2 o2 hS => ?_)
  have R1 := R1.off (H1 := H2) f1 k1.2.1 (fun q9 hq (w : g_own GC q9) => o2 q9 hq (fun (w2 : g_own GM q9) => by have := w.2.1; have := w2.1; omega))
  have hnB := hnb H1 H2 hnB z2 (fun q9 h1 _ h2 _ => o2 q9 h1 h2)
  have ho : H2[qo]? = _ := (o2 qo (Array.getElem?_eq_some_iff.mp ho).1 (fun (w2 : g_own GM qo) => by have := w2.2.1; omega)).trans ho
  refine lv_icmp_eq (tgt := 1492) hx hb dL_1052 (by decide) (fun _ => ?_) (fun w => absurd rfl w)
  exact kk _ _ H2 locs2 hs' ⟨R1, R2, ⟨ov, ho⟩, hS, hnB⟩
def Op_good (ΓC ΓM : ly) (Sim Sim2 : mm → mm → Prop) : Prop := ∀ (σC σM : mm) (a1 a2 : Int32) , Sim σC σM → ∃ (r : Int32) (σC' σM' : mm), (fX12_good ΓC.2 σC 64 a1 a2 = some r ∧ σC' = σC) ∧ (fX13_good ΓM.2 σM 64 a1 a2 = some (r, σM')) ∧ Sim2 σC' σM'
theorem law_good {p : Program} {l : Launch} {e : Env} {s : State} {m : MethodId} {b : Nat} {below : List Frame} {meth : Method} {c : Code} {H : Heap} {locs : List Loc} {k n : Nat} {Z : State → Prop} {ls : Array Slot} {L : Nat} {xs : Nat → Int32} {GC GM : gg} {ΓC ΓM : ly} {σC σM : mm} {cJ : ClassId} {qo i : Nat} {Sim Sim2 : mm → mm → Prop} {NB : Heap → Prop} (hnb : NBs GC GM qo NB) (hop : Op_good ΓC ΓM Sim Sim2) (hx : p.tables.exec = Jvm.exec) (hb : c.code = code) (hml : c.maxLocals = 7) (hown : s.vm.findClass RL = some m.cls) (hts : ∀ w ∈ lw_tbl, w.before #[Value.ref b] s = true) (hX : va_X b L xs s s.heap) (hbl : b < s.heap.size) (hL3 : L ≤ 3072) (F : LF GC GM cJ qo s) (tx : tyOK ΓC (0, 11) 64) (tm : tyOK ΓM (0, 12) 64) (hi : i + 6 ≤ L) (hk : k ≤ 601024) (hn : n ≤ 7293034) (hs : Sim σC σM) (I : LSt GC GM ΓC σC ΓM σM cJ qo NB s H locs) (hl : lv_has ls 7 [(0, .ref b), (1, .ref (GC.2.1 64)), (2, .ref (GM.2.1 64)), (3, .ref qo), (4, .int (nI i))])
    (kk : ∀ (σC' σM' : mm) (H1 : Heap) (locs1 : List Loc), Sim2 σC' σM' → LSt GC GM ΓC σC' ΓM σM' cJ qo NB s H1 locs1 → W p l e room_1 s m #[Value.ref b] below meth c H1 locs1 k n Z (F0 m 1492 ls [])) : W p l e room_1 s m #[Value.ref b] below meth c H locs k n Z (F0 m 1057 ls []) := by
  obtain ⟨R1, R2, ⟨ov, ho⟩, hS, hnB⟩ := I
  obtain ⟨k1, k2, f1, f2, b1, b2, b3, b4, b5, b6⟩ := F
  obtain ⟨r, σC', σM', e1, e2, hs'⟩ := hop σC σM (xs (i + 1)) (xs (i + 2)) hs
  refine lv_aload_n hx hb dL_1057 rfl (lv_at hl 1 rfl) ?_
  refine L_arg 1 0 4 hx hb hX hbl hL3 hS hl rfl rfl (by omega) (by decide) dL_1058 dL_1059 dL_1061 dL_1062 dL_1063 ?_
  refine L_arg 2 0 4 hx hb hX hbl hL3 hS hl rfl rfl (by omega) (by decide) dL_1064 dL_1065 dL_1067 dL_1068 dL_1069 ?_
  obtain ⟨e1, q1⟩ := e1
  rw [q1] at hs'
  refine L_call (G := GC) (Γ := ΓC) (σ := σC) (σ2 := σC) (a := 64) (ci := 11) (r := r) [.int (xs (i + 1)), .int (xs (i + 2))] hx hb hml hown hts dL_1070 cvL_138 rfl rfl tx rfl rfl (Nat.le_of_ble_eq_true rfl) R1 k1 b1 hS hl.1 hk hn (kX12_good 2047 (by decide) 64 (xs (i + 1)) (xs (i + 2)) tx r e1) (fun H1 locs1 R1 z1 o1 hS => ?_)
  have R2 := R2.off (H1 := H1) f2 k2.2.1 (fun q9 hq (w : g_own GM q9) => o1 q9 hq (fun (w2 : g_own GC q9) => by have := w.1; have := w2.2.1; omega))
  have hnB := hnb H H1 hnB z1 (fun q9 h1 h2 _ _ => o1 q9 h1 h2)
  have ho : H1[qo]? = _ := (o1 qo (Array.getElem?_eq_some_iff.mp ho).1 (fun (w2 : g_own GC qo) => by have := w2.2.1; omega)).trans ho
  refine lv_aload_n hx hb dL_1073 rfl (lv_at hl 2 rfl) ?_
  refine L_arg 1 0 4 hx hb hX hbl hL3 hS hl rfl rfl (by omega) (by decide) dL_1074 dL_1075 dL_1077 dL_1078 dL_1079 ?_
  refine L_arg 2 0 4 hx hb hX hbl hL3 hS hl rfl rfl (by omega) (by decide) dL_1080 dL_1081 dL_1083 dL_1084 dL_1085 ?_
  refine L_call (G := GM) (Γ := ΓM) (σ := σM) (σ2 := σM') (a := 64) (ci := 12) (r := r) [.int (xs (i + 1)), .int (xs (i + 2))] hx hb hml hown hts dL_1086 cvL_141 rfl rfl tm rfl rfl (Nat.le_of_ble_eq_true rfl) R2 k2 b2 hS hl.1 hk hn (kX13_good 2047 (by decide) 64 (xs (i + 1)) (xs (i + 2)) tm (r, σM') e2) (fun H2 locs2 R2 z2 o2 hS => ?_)
  have R1 := R1.off (H1 := H2) f1 k1.2.1 (fun q9 hq (w : g_own GC q9) => o2 q9 hq (fun (w2 : g_own GM q9) => by have := w.2.1; have := w2.1; omega))
  have hnB := hnb H1 H2 hnB z2 (fun q9 h1 _ h2 _ => o2 q9 h1 h2)
  have ho : H2[qo]? = _ := (o2 qo (Array.getElem?_eq_some_iff.mp ho).1 (fun (w2 : g_own GM qo) => by have := w2.2.1; omega)).trans ho
  refine lv_icmp_eq (tgt := 1492) hx hb dL_1089 (by decide) (fun _ => ?_) (fun w => absurd rfl w)
  exact kk _ _ H2 locs2 hs' ⟨R1, R2, ⟨ov, ho⟩, hS, hnB⟩
def Op_law (ΓC ΓM : ly) (Sim Sim2 : mm → mm → Prop) : Prop := ∀ (σC σM : mm) (a1 a2 : Int32) , Sim σC σM → ∃ (r : Int32) (σC' σM' : mm), (fX12_law ΓC.2 σC 64 a1 a2 = some (r, σC')) ∧ (fX13_law ΓM.2 σM 64 a1 a2 = some (r, σM')) ∧ Sim2 σC' σM'
theorem law_law {p : Program} {l : Launch} {e : Env} {s : State} {m : MethodId} {b : Nat} {below : List Frame} {meth : Method} {c : Code} {H : Heap} {locs : List Loc} {k n : Nat} {Z : State → Prop} {ls : Array Slot} {L : Nat} {xs : Nat → Int32} {GC GM : gg} {ΓC ΓM : ly} {σC σM : mm} {cJ : ClassId} {qo i : Nat} {Sim Sim2 : mm → mm → Prop} {NB : Heap → Prop} (hnb : NBs GC GM qo NB) (hop : Op_law ΓC ΓM Sim Sim2) (hx : p.tables.exec = Jvm.exec) (hb : c.code = code) (hml : c.maxLocals = 7) (hown : s.vm.findClass RL = some m.cls) (hts : ∀ w ∈ lw_tbl, w.before #[Value.ref b] s = true) (hX : va_X b L xs s s.heap) (hbl : b < s.heap.size) (hL3 : L ≤ 3072) (F : LF GC GM cJ qo s) (tx : tyOK ΓC (0, 11) 64) (tm : tyOK ΓM (0, 12) 64) (hi : i + 6 ≤ L) (hk : k ≤ 601024) (hn : n ≤ 7293034) (hs : Sim σC σM) (I : LSt GC GM ΓC σC ΓM σM cJ qo NB s H locs) (hl : lv_has ls 7 [(0, .ref b), (1, .ref (GC.2.1 64)), (2, .ref (GM.2.1 64)), (3, .ref qo), (4, .int (nI i))])
    (kk : ∀ (σC' σM' : mm) (H1 : Heap) (locs1 : List Loc), Sim2 σC' σM' → LSt GC GM ΓC σC' ΓM σM' cJ qo NB s H1 locs1 → W p l e room_1 s m #[Value.ref b] below meth c H1 locs1 k n Z (F0 m 1492 ls [])) : W p l e room_1 s m #[Value.ref b] below meth c H locs k n Z (F0 m 1094 ls []) := by
  obtain ⟨R1, R2, ⟨ov, ho⟩, hS, hnB⟩ := I
  obtain ⟨k1, k2, f1, f2, b1, b2, b3, b4, b5, b6⟩ := F
  obtain ⟨r, σC', σM', e1, e2, hs'⟩ := hop σC σM (xs (i + 1)) (xs (i + 2)) hs
  refine lv_aload_n hx hb dL_1094 rfl (lv_at hl 1 rfl) ?_
  refine L_arg 1 0 4 hx hb hX hbl hL3 hS hl rfl rfl (by omega) (by decide) dL_1095 dL_1096 dL_1098 dL_1099 dL_1100 ?_
  refine L_arg 2 0 4 hx hb hX hbl hL3 hS hl rfl rfl (by omega) (by decide) dL_1101 dL_1102 dL_1104 dL_1105 dL_1106 ?_
  refine L_call (G := GC) (Γ := ΓC) (σ := σC) (σ2 := σC') (a := 64) (ci := 11) (r := r) [.int (xs (i + 1)), .int (xs (i + 2))] hx hb hml hown hts dL_1107 cvL_142 rfl rfl tx rfl rfl (Nat.le_of_ble_eq_true rfl) R1 k1 b1 hS hl.1 hk hn (kX12_law 2047 (by decide) 64 (xs (i + 1)) (xs (i + 2)) tx (r, σC') e1) (fun H1 locs1 R1 z1 o1 hS => ?_)
  have R2 := R2.off (H1 := H1) f2 k2.2.1 (fun q9 hq (w : g_own GM q9) => o1 q9 hq (fun (w2 : g_own GC q9) => by have := w.1; have := w2.2.1; omega))
  have hnB := hnb H H1 hnB z1 (fun q9 h1 h2 _ _ => o1 q9 h1 h2)
  have ho : H1[qo]? = _ := (o1 qo (Array.getElem?_eq_some_iff.mp ho).1 (fun (w2 : g_own GC qo) => by have := w2.2.1; omega)).trans ho
  refine lv_aload_n hx hb dL_1110 rfl (lv_at hl 2 rfl) ?_
  refine L_arg 1 0 4 hx hb hX hbl hL3 hS hl rfl rfl (by omega) (by decide) dL_1111 dL_1112 dL_1114 dL_1115 dL_1116 ?_
  refine L_arg 2 0 4 hx hb hX hbl hL3 hS hl rfl rfl (by omega) (by decide) dL_1117 dL_1118 dL_1120 dL_1121 dL_1122 ?_
  refine L_call (G := GM) (Γ := ΓM) (σ := σM) (σ2 := σM') (a := 64) (ci := 12) (r := r) [.int (xs (i + 1)), .int (xs (i + 2))] hx hb hml hown hts dL_1123 cvL_145 rfl rfl tm rfl rfl (Nat.le_of_ble_eq_true rfl) R2 k2 b2 hS hl.1 hk hn (kX13_law 2047 (by decide) 64 (xs (i + 1)) (xs (i + 2)) tm (r, σM') e2) (fun H2 locs2 R2 z2 o2 hS => ?_)
  have R1 := R1.off (H1 := H2) f1 k1.2.1 (fun q9 hq (w : g_own GC q9) => o2 q9 hq (fun (w2 : g_own GM q9) => by have := w.2.1; have := w2.1; omega))
  have hnB := hnb H1 H2 hnB z2 (fun q9 h1 _ h2 _ => o2 q9 h1 h2)
  have ho : H2[qo]? = _ := (o2 qo (Array.getElem?_eq_some_iff.mp ho).1 (fun (w2 : g_own GM qo) => by have := w2.2.1; omega)).trans ho
  refine lv_icmp_eq (tgt := 1492) hx hb dL_1126 (by decide) (fun _ => ?_) (fun w => absurd rfl w)
  exact kk _ _ H2 locs2 hs' ⟨R1, R2, ⟨ov, ho⟩, hS, hnB⟩
def Op_rings (ΓC ΓM : ly) (Sim Sim2 : mm → mm → Prop) : Prop := ∀ (σC σM : mm) (a1 : Int32) , Sim σC σM → ∃ (r : Int32) (σC' σM' : mm), (fX12_rings ΓC.2 σC 64 a1 = some (r, σC')) ∧ (fX13_rings ΓM.2 σM 64 a1 = some (r, σM')) ∧ Sim2 σC' σM'
theorem law_rings {p : Program} {l : Launch} {e : Env} {s : State} {m : MethodId} {b : Nat} {below : List Frame} {meth : Method} {c : Code} {H : Heap} {locs : List Loc} {k n : Nat} {Z : State → Prop} {ls : Array Slot} {L : Nat} {xs : Nat → Int32} {GC GM : gg} {ΓC ΓM : ly} {σC σM : mm} {cJ : ClassId} {qo i : Nat} {Sim Sim2 : mm → mm → Prop} {NB : Heap → Prop} (hnb : NBs GC GM qo NB) (hop : Op_rings ΓC ΓM Sim Sim2) (hx : p.tables.exec = Jvm.exec) (hb : c.code = code) (hml : c.maxLocals = 7) (hown : s.vm.findClass RL = some m.cls) (hts : ∀ w ∈ lw_tbl, w.before #[Value.ref b] s = true) (hX : va_X b L xs s s.heap) (hbl : b < s.heap.size) (hL3 : L ≤ 3072) (F : LF GC GM cJ qo s) (tx : tyOK ΓC (0, 11) 64) (tm : tyOK ΓM (0, 12) 64) (hi : i + 6 ≤ L) (hk : k ≤ 601024) (hn : n ≤ 7293034) (hs : Sim σC σM) (I : LSt GC GM ΓC σC ΓM σM cJ qo NB s H locs) (hl : lv_has ls 7 [(0, .ref b), (1, .ref (GC.2.1 64)), (2, .ref (GM.2.1 64)), (3, .ref qo), (4, .int (nI i))])
    (kk : ∀ (σC' σM' : mm) (H1 : Heap) (locs1 : List Loc), Sim2 σC' σM' → LSt GC GM ΓC σC' ΓM σM' cJ qo NB s H1 locs1 → W p l e room_1 s m #[Value.ref b] below meth c H1 locs1 k n Z (F0 m 1492 ls [])) : W p l e room_1 s m #[Value.ref b] below meth c H locs k n Z (F0 m 1131 ls []) := by
  obtain ⟨R1, R2, ⟨ov, ho⟩, hS, hnB⟩ := I
  obtain ⟨k1, k2, f1, f2, b1, b2, b3, b4, b5, b6⟩ := F
  obtain ⟨r, σC', σM', e1, e2, hs'⟩ := hop σC σM (xs (i + 1)) hs
  refine lv_aload_n hx hb dL_1131 rfl (lv_at hl 1 rfl) ?_
  refine L_arg 1 0 4 hx hb hX hbl hL3 hS hl rfl rfl (by omega) (by decide) dL_1132 dL_1133 dL_1135 dL_1136 dL_1137 ?_
  refine L_call (G := GC) (Γ := ΓC) (σ := σC) (σ2 := σC') (a := 64) (ci := 11) (r := r) [.int (xs (i + 1))] hx hb hml hown hts dL_1138 cvL_146 rfl rfl tx rfl rfl (Nat.le_of_ble_eq_true rfl) R1 k1 b1 hS hl.1 hk hn (kX12_rings 2047 (by decide) 64 (xs (i + 1)) tx (r, σC') e1) (fun H1 locs1 R1 z1 o1 hS => ?_)
  have R2 := R2.off (H1 := H1) f2 k2.2.1 (fun q9 hq (w : g_own GM q9) => o1 q9 hq (fun (w2 : g_own GC q9) => by have := w.1; have := w2.2.1; omega))
  have hnB := hnb H H1 hnB z1 (fun q9 h1 h2 _ _ => o1 q9 h1 h2)
  have ho : H1[qo]? = _ := (o1 qo (Array.getElem?_eq_some_iff.mp ho).1 (fun (w2 : g_own GC qo) => by have := w2.2.1; omega)).trans ho
  refine lv_aload_n hx hb dL_1141 rfl (lv_at hl 2 rfl) ?_
  refine L_arg 1 0 4 hx hb hX hbl hL3 hS hl rfl rfl (by omega) (by decide) dL_1142 dL_1143 dL_1145 dL_1146 dL_1147 ?_
  refine L_call (G := GM) (Γ := ΓM) (σ := σM) (σ2 := σM') (a := 64) (ci := 12) (r := r) [.int (xs (i + 1))] hx hb hml hown hts dL_1148 cvL_149 rfl rfl tm rfl rfl (Nat.le_of_ble_eq_true rfl) R2 k2 b2 hS hl.1 hk hn (kX13_rings 2047 (by decide) 64 (xs (i + 1)) tm (r, σM') e2) (fun H2 locs2 R2 z2 o2 hS => ?_)
  have R1 := R1.off (H1 := H2) f1 k1.2.1 (fun q9 hq (w : g_own GC q9) => o2 q9 hq (fun (w2 : g_own GM q9) => by have := w.2.1; have := w2.1; omega))
  have hnB := hnb H1 H2 hnB z2 (fun q9 h1 _ h2 _ => o2 q9 h1 h2)
  have ho : H2[qo]? = _ := (o2 qo (Array.getElem?_eq_some_iff.mp ho).1 (fun (w2 : g_own GM qo) => by have := w2.2.1; omega)).trans ho
  refine lv_icmp_eq (tgt := 1492) hx hb dL_1151 (by decide) (fun _ => ?_) (fun w => absurd rfl w)
  exact kk _ _ H2 locs2 hs' ⟨R1, R2, ⟨ov, ho⟩, hS, hnB⟩
def Op_together (ΓC ΓM : ly) (Sim Sim2 : mm → mm → Prop) : Prop := ∀ (σC σM : mm) (a1 a2 : Int32) , Sim σC σM → ∃ (r : Int32) (σC' σM' : mm), (fX12_together ΓC.2 σC 64 a1 a2 = some r ∧ σC' = σC) ∧ (fX13_together ΓM.2 σM 64 a1 a2 = some (r, σM')) ∧ Sim2 σC' σM'
theorem law_together {p : Program} {l : Launch} {e : Env} {s : State} {m : MethodId} {b : Nat} {below : List Frame} {meth : Method} {c : Code} {H : Heap} {locs : List Loc} {k n : Nat} {Z : State → Prop} {ls : Array Slot} {L : Nat} {xs : Nat → Int32} {GC GM : gg} {ΓC ΓM : ly} {σC σM : mm} {cJ : ClassId} {qo i : Nat} {Sim Sim2 : mm → mm → Prop} {NB : Heap → Prop} (hnb : NBs GC GM qo NB) (hop : Op_together ΓC ΓM Sim Sim2) (hx : p.tables.exec = Jvm.exec) (hb : c.code = code) (hml : c.maxLocals = 7) (hown : s.vm.findClass RL = some m.cls) (hts : ∀ w ∈ lw_tbl, w.before #[Value.ref b] s = true) (hX : va_X b L xs s s.heap) (hbl : b < s.heap.size) (hL3 : L ≤ 3072) (F : LF GC GM cJ qo s) (tx : tyOK ΓC (0, 11) 64) (tm : tyOK ΓM (0, 12) 64) (hi : i + 6 ≤ L) (hk : k ≤ 601024) (hn : n ≤ 7293034) (hs : Sim σC σM) (I : LSt GC GM ΓC σC ΓM σM cJ qo NB s H locs) (hl : lv_has ls 7 [(0, .ref b), (1, .ref (GC.2.1 64)), (2, .ref (GM.2.1 64)), (3, .ref qo), (4, .int (nI i))])
    (kk : ∀ (σC' σM' : mm) (H1 : Heap) (locs1 : List Loc), Sim2 σC' σM' → LSt GC GM ΓC σC' ΓM σM' cJ qo NB s H1 locs1 → W p l e room_1 s m #[Value.ref b] below meth c H1 locs1 k n Z (F0 m 1492 ls [])) : W p l e room_1 s m #[Value.ref b] below meth c H locs k n Z (F0 m 1156 ls []) := by
  obtain ⟨R1, R2, ⟨ov, ho⟩, hS, hnB⟩ := I
  obtain ⟨k1, k2, f1, f2, b1, b2, b3, b4, b5, b6⟩ := F
  obtain ⟨r, σC', σM', e1, e2, hs'⟩ := hop σC σM (xs (i + 1)) (xs (i + 2)) hs
  refine lv_aload_n hx hb dL_1156 rfl (lv_at hl 1 rfl) ?_
  refine L_arg 1 0 4 hx hb hX hbl hL3 hS hl rfl rfl (by omega) (by decide) dL_1157 dL_1158 dL_1160 dL_1161 dL_1162 ?_
  refine L_arg 2 0 4 hx hb hX hbl hL3 hS hl rfl rfl (by omega) (by decide) dL_1163 dL_1164 dL_1166 dL_1167 dL_1168 ?_
  obtain ⟨e1, q1⟩ := e1
  rw [q1] at hs'
  refine L_call (G := GC) (Γ := ΓC) (σ := σC) (σ2 := σC) (a := 64) (ci := 11) (r := r) [.int (xs (i + 1)), .int (xs (i + 2))] hx hb hml hown hts dL_1169 cvL_150 rfl rfl tx rfl rfl (Nat.le_of_ble_eq_true rfl) R1 k1 b1 hS hl.1 hk hn (kX12_together 2047 (by decide) 64 (xs (i + 1)) (xs (i + 2)) tx r e1) (fun H1 locs1 R1 z1 o1 hS => ?_)
  have R2 := R2.off (H1 := H1) f2 k2.2.1 (fun q9 hq (w : g_own GM q9) => o1 q9 hq (fun (w2 : g_own GC q9) => by have := w.1; have := w2.2.1; omega))
  have hnB := hnb H H1 hnB z1 (fun q9 h1 h2 _ _ => o1 q9 h1 h2)
  have ho : H1[qo]? = _ := (o1 qo (Array.getElem?_eq_some_iff.mp ho).1 (fun (w2 : g_own GC qo) => by have := w2.2.1; omega)).trans ho
  refine lv_aload_n hx hb dL_1172 rfl (lv_at hl 2 rfl) ?_
  refine L_arg 1 0 4 hx hb hX hbl hL3 hS hl rfl rfl (by omega) (by decide) dL_1173 dL_1174 dL_1176 dL_1177 dL_1178 ?_
  refine L_arg 2 0 4 hx hb hX hbl hL3 hS hl rfl rfl (by omega) (by decide) dL_1179 dL_1180 dL_1182 dL_1183 dL_1184 ?_
  refine L_call (G := GM) (Γ := ΓM) (σ := σM) (σ2 := σM') (a := 64) (ci := 12) (r := r) [.int (xs (i + 1)), .int (xs (i + 2))] hx hb hml hown hts dL_1185 cvL_153 rfl rfl tm rfl rfl (Nat.le_of_ble_eq_true rfl) R2 k2 b2 hS hl.1 hk hn (kX13_together 2047 (by decide) 64 (xs (i + 1)) (xs (i + 2)) tm (r, σM') e2) (fun H2 locs2 R2 z2 o2 hS => ?_)
  have R1 := R1.off (H1 := H2) f1 k1.2.1 (fun q9 hq (w : g_own GC q9) => o2 q9 hq (fun (w2 : g_own GM q9) => by have := w.2.1; have := w2.1; omega))
  have hnB := hnb H1 H2 hnB z2 (fun q9 h1 _ h2 _ => o2 q9 h1 h2)
  have ho : H2[qo]? = _ := (o2 qo (Array.getElem?_eq_some_iff.mp ho).1 (fun (w2 : g_own GM qo) => by have := w2.2.1; omega)).trans ho
  refine lv_icmp_eq (tgt := 1492) hx hb dL_1188 (by decide) (fun _ => ?_) (fun w => absurd rfl w)
  exact kk _ _ H2 locs2 hs' ⟨R1, R2, ⟨ov, ho⟩, hS, hnB⟩
def Op_drawn (ΓC ΓM : ly) (Sim Sim2 : mm → mm → Prop) : Prop := ∀ (σC σM : mm) (a1 a2 : Int32) , Sim σC σM → ∃ (r : Int32) (σC' σM' : mm), (fX12_drawn ΓC.2 σC 64 a1 a2 = some (r, σC')) ∧ (fX13_drawn ΓM.2 σM 64 a1 a2 = some (r, σM')) ∧ Sim2 σC' σM'
theorem law_drawn {p : Program} {l : Launch} {e : Env} {s : State} {m : MethodId} {b : Nat} {below : List Frame} {meth : Method} {c : Code} {H : Heap} {locs : List Loc} {k n : Nat} {Z : State → Prop} {ls : Array Slot} {L : Nat} {xs : Nat → Int32} {GC GM : gg} {ΓC ΓM : ly} {σC σM : mm} {cJ : ClassId} {qo i : Nat} {Sim Sim2 : mm → mm → Prop} {NB : Heap → Prop} (hnb : NBs GC GM qo NB) (hop : Op_drawn ΓC ΓM Sim Sim2) (hx : p.tables.exec = Jvm.exec) (hb : c.code = code) (hml : c.maxLocals = 7) (hown : s.vm.findClass RL = some m.cls) (hts : ∀ w ∈ lw_tbl, w.before #[Value.ref b] s = true) (hX : va_X b L xs s s.heap) (hbl : b < s.heap.size) (hL3 : L ≤ 3072) (F : LF GC GM cJ qo s) (tx : tyOK ΓC (0, 11) 64) (tm : tyOK ΓM (0, 12) 64) (hi : i + 6 ≤ L) (hk : k ≤ 601024) (hn : n ≤ 7293034) (hs : Sim σC σM) (I : LSt GC GM ΓC σC ΓM σM cJ qo NB s H locs) (hl : lv_has ls 7 [(0, .ref b), (1, .ref (GC.2.1 64)), (2, .ref (GM.2.1 64)), (3, .ref qo), (4, .int (nI i))])
    (kk : ∀ (σC' σM' : mm) (H1 : Heap) (locs1 : List Loc), Sim2 σC' σM' → LSt GC GM ΓC σC' ΓM σM' cJ qo NB s H1 locs1 → W p l e room_1 s m #[Value.ref b] below meth c H1 locs1 k n Z (F0 m 1492 ls [])) : W p l e room_1 s m #[Value.ref b] below meth c H locs k n Z (F0 m 1243 ls []) := by
  obtain ⟨R1, R2, ⟨ov, ho⟩, hS, hnB⟩ := I
  obtain ⟨k1, k2, f1, f2, b1, b2, b3, b4, b5, b6⟩ := F
  obtain ⟨r, σC', σM', e1, e2, hs'⟩ := hop σC σM (xs (i + 1)) (xs (i + 2)) hs
  refine lv_aload_n hx hb dL_1243 rfl (lv_at hl 1 rfl) ?_
  refine L_arg 1 0 4 hx hb hX hbl hL3 hS hl rfl rfl (by omega) (by decide) dL_1244 dL_1245 dL_1247 dL_1248 dL_1249 ?_
  refine L_arg 2 0 4 hx hb hX hbl hL3 hS hl rfl rfl (by omega) (by decide) dL_1250 dL_1251 dL_1253 dL_1254 dL_1255 ?_
  refine L_call (G := GC) (Γ := ΓC) (σ := σC) (σ2 := σC') (a := 64) (ci := 11) (r := r) [.int (xs (i + 1)), .int (xs (i + 2))] hx hb hml hown hts dL_1256 cvL_162 rfl rfl tx rfl rfl (Nat.le_of_ble_eq_true rfl) R1 k1 b1 hS hl.1 hk hn (kX12_drawn 2047 (by decide) 64 (xs (i + 1)) (xs (i + 2)) tx (r, σC') e1) (fun H1 locs1 R1 z1 o1 hS => ?_)
  have R2 := R2.off (H1 := H1) f2 k2.2.1 (fun q9 hq (w : g_own GM q9) => o1 q9 hq (fun (w2 : g_own GC q9) => by have := w.1; have := w2.2.1; omega))
  have hnB := hnb H H1 hnB z1 (fun q9 h1 h2 _ _ => o1 q9 h1 h2)
  have ho : H1[qo]? = _ := (o1 qo (Array.getElem?_eq_some_iff.mp ho).1 (fun (w2 : g_own GC qo) => by have := w2.2.1; omega)).trans ho
  refine lv_aload_n hx hb dL_1259 rfl (lv_at hl 2 rfl) ?_
  refine L_arg 1 0 4 hx hb hX hbl hL3 hS hl rfl rfl (by omega) (by decide) dL_1260 dL_1261 dL_1263 dL_1264 dL_1265 ?_
  refine L_arg 2 0 4 hx hb hX hbl hL3 hS hl rfl rfl (by omega) (by decide) dL_1266 dL_1267 dL_1269 dL_1270 dL_1271 ?_
  refine L_call (G := GM) (Γ := ΓM) (σ := σM) (σ2 := σM') (a := 64) (ci := 12) (r := r) [.int (xs (i + 1)), .int (xs (i + 2))] hx hb hml hown hts dL_1272 cvL_165 rfl rfl tm rfl rfl (Nat.le_of_ble_eq_true rfl) R2 k2 b2 hS hl.1 hk hn (kX13_drawn 2047 (by decide) 64 (xs (i + 1)) (xs (i + 2)) tm (r, σM') e2) (fun H2 locs2 R2 z2 o2 hS => ?_)
  have R1 := R1.off (H1 := H2) f1 k1.2.1 (fun q9 hq (w : g_own GC q9) => o2 q9 hq (fun (w2 : g_own GM q9) => by have := w.2.1; have := w2.1; omega))
  have hnB := hnb H1 H2 hnB z2 (fun q9 h1 _ h2 _ => o2 q9 h1 h2)
  have ho : H2[qo]? = _ := (o2 qo (Array.getElem?_eq_some_iff.mp ho).1 (fun (w2 : g_own GM qo) => by have := w2.2.1; omega)).trans ho
  refine lv_icmp_eq (tgt := 1492) hx hb dL_1275 (by decide) (fun _ => ?_) (fun w => absurd rfl w)
  exact kk _ _ H2 locs2 hs' ⟨R1, R2, ⟨ov, ho⟩, hS, hnB⟩
def Op_odds (ΓC ΓM : ly) (Sim Sim2 : mm → mm → Prop) : Prop := ∀ (σC σM : mm) (a1 a2 a3 : Int32) , Sim σC σM → ∃ (r : Int32) (σC' σM' : mm), (fX12_odds ΓC.2 σC 64 a1 a2 a3 = some (r, σC')) ∧ (fX13_odds ΓM.2 σM 64 a1 a2 a3 = some (r, σM')) ∧ Sim2 σC' σM'
theorem law_odds {p : Program} {l : Launch} {e : Env} {s : State} {m : MethodId} {b : Nat} {below : List Frame} {meth : Method} {c : Code} {H : Heap} {locs : List Loc} {k n : Nat} {Z : State → Prop} {ls : Array Slot} {L : Nat} {xs : Nat → Int32} {GC GM : gg} {ΓC ΓM : ly} {σC σM : mm} {cJ : ClassId} {qo i : Nat} {Sim Sim2 : mm → mm → Prop} {NB : Heap → Prop} (hnb : NBs GC GM qo NB) (hop : Op_odds ΓC ΓM Sim Sim2) (hx : p.tables.exec = Jvm.exec) (hb : c.code = code) (hml : c.maxLocals = 7) (hown : s.vm.findClass RL = some m.cls) (hts : ∀ w ∈ lw_tbl, w.before #[Value.ref b] s = true) (hX : va_X b L xs s s.heap) (hbl : b < s.heap.size) (hL3 : L ≤ 3072) (F : LF GC GM cJ qo s) (tx : tyOK ΓC (0, 11) 64) (tm : tyOK ΓM (0, 12) 64) (hi : i + 6 ≤ L) (hk : k ≤ 601024) (hn : n ≤ 7293034) (hs : Sim σC σM) (I : LSt GC GM ΓC σC ΓM σM cJ qo NB s H locs) (hl : lv_has ls 7 [(0, .ref b), (1, .ref (GC.2.1 64)), (2, .ref (GM.2.1 64)), (3, .ref qo), (4, .int (nI i))])
    (kk : ∀ (σC' σM' : mm) (H1 : Heap) (locs1 : List Loc), Sim2 σC' σM' → LSt GC GM ΓC σC' ΓM σM' cJ qo NB s H1 locs1 → W p l e room_1 s m #[Value.ref b] below meth c H1 locs1 k n Z (F0 m 1492 ls [])) : W p l e room_1 s m #[Value.ref b] below meth c H locs k n Z (F0 m 1280 ls []) := by
  obtain ⟨R1, R2, ⟨ov, ho⟩, hS, hnB⟩ := I
  obtain ⟨k1, k2, f1, f2, b1, b2, b3, b4, b5, b6⟩ := F
  obtain ⟨r, σC', σM', e1, e2, hs'⟩ := hop σC σM (xs (i + 1)) (xs (i + 2)) (xs (i + 3)) hs
  refine lv_aload_n hx hb dL_1280 rfl (lv_at hl 1 rfl) ?_
  refine L_arg 1 0 4 hx hb hX hbl hL3 hS hl rfl rfl (by omega) (by decide) dL_1281 dL_1282 dL_1284 dL_1285 dL_1286 ?_
  refine L_arg 2 0 4 hx hb hX hbl hL3 hS hl rfl rfl (by omega) (by decide) dL_1287 dL_1288 dL_1290 dL_1291 dL_1292 ?_
  refine L_arg 3 0 4 hx hb hX hbl hL3 hS hl rfl rfl (by omega) (by decide) dL_1293 dL_1294 dL_1296 dL_1297 dL_1298 ?_
  refine L_call (G := GC) (Γ := ΓC) (σ := σC) (σ2 := σC') (a := 64) (ci := 11) (r := r) [.int (xs (i + 1)), .int (xs (i + 2)), .int (xs (i + 3))] hx hb hml hown hts dL_1299 cvL_166 rfl rfl tx rfl rfl (Nat.le_of_ble_eq_true rfl) R1 k1 b1 hS hl.1 hk hn (kX12_odds 2047 (by decide) 64 (xs (i + 1)) (xs (i + 2)) (xs (i + 3)) tx (r, σC') e1) (fun H1 locs1 R1 z1 o1 hS => ?_)
  have R2 := R2.off (H1 := H1) f2 k2.2.1 (fun q9 hq (w : g_own GM q9) => o1 q9 hq (fun (w2 : g_own GC q9) => by have := w.1; have := w2.2.1; omega))
  have hnB := hnb H H1 hnB z1 (fun q9 h1 h2 _ _ => o1 q9 h1 h2)
  have ho : H1[qo]? = _ := (o1 qo (Array.getElem?_eq_some_iff.mp ho).1 (fun (w2 : g_own GC qo) => by have := w2.2.1; omega)).trans ho
  refine lv_aload_n hx hb dL_1302 rfl (lv_at hl 2 rfl) ?_
  refine L_arg 1 0 4 hx hb hX hbl hL3 hS hl rfl rfl (by omega) (by decide) dL_1303 dL_1304 dL_1306 dL_1307 dL_1308 ?_
  refine L_arg 2 0 4 hx hb hX hbl hL3 hS hl rfl rfl (by omega) (by decide) dL_1309 dL_1310 dL_1312 dL_1313 dL_1314 ?_
  refine L_arg 3 0 4 hx hb hX hbl hL3 hS hl rfl rfl (by omega) (by decide) dL_1315 dL_1316 dL_1318 dL_1319 dL_1320 ?_
  refine L_call (G := GM) (Γ := ΓM) (σ := σM) (σ2 := σM') (a := 64) (ci := 12) (r := r) [.int (xs (i + 1)), .int (xs (i + 2)), .int (xs (i + 3))] hx hb hml hown hts dL_1321 cvL_170 rfl rfl tm rfl rfl (Nat.le_of_ble_eq_true rfl) R2 k2 b2 hS hl.1 hk hn (kX13_odds 2047 (by decide) 64 (xs (i + 1)) (xs (i + 2)) (xs (i + 3)) tm (r, σM') e2) (fun H2 locs2 R2 z2 o2 hS => ?_)
  have R1 := R1.off (H1 := H2) f1 k1.2.1 (fun q9 hq (w : g_own GC q9) => o2 q9 hq (fun (w2 : g_own GM q9) => by have := w.2.1; have := w2.1; omega))
  have hnB := hnb H1 H2 hnB z2 (fun q9 h1 _ h2 _ => o2 q9 h1 h2)
  have ho : H2[qo]? = _ := (o2 qo (Array.getElem?_eq_some_iff.mp ho).1 (fun (w2 : g_own GM qo) => by have := w2.2.1; omega)).trans ho
  refine lv_icmp_eq (tgt := 1492) hx hb dL_1324 (by decide) (fun _ => ?_) (fun w => absurd rfl w)
  exact kk _ _ H2 locs2 hs' ⟨R1, R2, ⟨ov, ho⟩, hS, hnB⟩
def Op_roll (ΓC ΓM : ly) (Sim Sim2 : mm → mm → Prop) : Prop := ∀ (σC σM : mm) (a1 : Int32) , Sim σC σM → ∃ (r : Int32) (σC' σM' : mm), (fX12_roll ΓC.2 σC 64 a1 = some (r, σC')) ∧ (fX13_roll ΓM.2 σM 64 a1 = some (r, σM')) ∧ Sim2 σC' σM'
theorem law_roll {p : Program} {l : Launch} {e : Env} {s : State} {m : MethodId} {b : Nat} {below : List Frame} {meth : Method} {c : Code} {H : Heap} {locs : List Loc} {k n : Nat} {Z : State → Prop} {ls : Array Slot} {L : Nat} {xs : Nat → Int32} {GC GM : gg} {ΓC ΓM : ly} {σC σM : mm} {cJ : ClassId} {qo i : Nat} {Sim Sim2 : mm → mm → Prop} {NB : Heap → Prop} (hnb : NBs GC GM qo NB) (hop : Op_roll ΓC ΓM Sim Sim2) (hx : p.tables.exec = Jvm.exec) (hb : c.code = code) (hml : c.maxLocals = 7) (hown : s.vm.findClass RL = some m.cls) (hts : ∀ w ∈ lw_tbl, w.before #[Value.ref b] s = true) (hX : va_X b L xs s s.heap) (hbl : b < s.heap.size) (hL3 : L ≤ 3072) (F : LF GC GM cJ qo s) (tx : tyOK ΓC (0, 11) 64) (tm : tyOK ΓM (0, 12) 64) (hi : i + 6 ≤ L) (hk : k ≤ 601024) (hn : n ≤ 7293034) (hs : Sim σC σM) (I : LSt GC GM ΓC σC ΓM σM cJ qo NB s H locs) (hl : lv_has ls 7 [(0, .ref b), (1, .ref (GC.2.1 64)), (2, .ref (GM.2.1 64)), (3, .ref qo), (4, .int (nI i))])
    (kk : ∀ (σC' σM' : mm) (H1 : Heap) (locs1 : List Loc), Sim2 σC' σM' → LSt GC GM ΓC σC' ΓM σM' cJ qo NB s H1 locs1 → W p l e room_1 s m #[Value.ref b] below meth c H1 locs1 k n Z (F0 m 1492 ls [])) : W p l e room_1 s m #[Value.ref b] below meth c H locs k n Z (F0 m 1329 ls []) := by
  obtain ⟨R1, R2, ⟨ov, ho⟩, hS, hnB⟩ := I
  obtain ⟨k1, k2, f1, f2, b1, b2, b3, b4, b5, b6⟩ := F
  obtain ⟨r, σC', σM', e1, e2, hs'⟩ := hop σC σM (xs (i + 1)) hs
  refine lv_aload_n hx hb dL_1329 rfl (lv_at hl 1 rfl) ?_
  refine L_arg 1 0 4 hx hb hX hbl hL3 hS hl rfl rfl (by omega) (by decide) dL_1330 dL_1331 dL_1333 dL_1334 dL_1335 ?_
  refine L_call (G := GC) (Γ := ΓC) (σ := σC) (σ2 := σC') (a := 64) (ci := 11) (r := r) [.int (xs (i + 1))] hx hb hml hown hts dL_1336 cvL_171 rfl rfl tx rfl rfl (Nat.le_of_ble_eq_true rfl) R1 k1 b1 hS hl.1 hk hn (kX12_roll 2047 (by decide) 64 (xs (i + 1)) tx (r, σC') e1) (fun H1 locs1 R1 z1 o1 hS => ?_)
  have R2 := R2.off (H1 := H1) f2 k2.2.1 (fun q9 hq (w : g_own GM q9) => o1 q9 hq (fun (w2 : g_own GC q9) => by have := w.1; have := w2.2.1; omega))
  have hnB := hnb H H1 hnB z1 (fun q9 h1 h2 _ _ => o1 q9 h1 h2)
  have ho : H1[qo]? = _ := (o1 qo (Array.getElem?_eq_some_iff.mp ho).1 (fun (w2 : g_own GC qo) => by have := w2.2.1; omega)).trans ho
  refine lv_aload_n hx hb dL_1339 rfl (lv_at hl 2 rfl) ?_
  refine L_arg 1 0 4 hx hb hX hbl hL3 hS hl rfl rfl (by omega) (by decide) dL_1340 dL_1341 dL_1343 dL_1344 dL_1345 ?_
  refine L_call (G := GM) (Γ := ΓM) (σ := σM) (σ2 := σM') (a := 64) (ci := 12) (r := r) [.int (xs (i + 1))] hx hb hml hown hts dL_1346 cvL_174 rfl rfl tm rfl rfl (Nat.le_of_ble_eq_true rfl) R2 k2 b2 hS hl.1 hk hn (kX13_roll 2047 (by decide) 64 (xs (i + 1)) tm (r, σM') e2) (fun H2 locs2 R2 z2 o2 hS => ?_)
  have R1 := R1.off (H1 := H2) f1 k1.2.1 (fun q9 hq (w : g_own GC q9) => o2 q9 hq (fun (w2 : g_own GM q9) => by have := w.2.1; have := w2.1; omega))
  have hnB := hnb H1 H2 hnB z2 (fun q9 h1 _ h2 _ => o2 q9 h1 h2)
  have ho : H2[qo]? = _ := (o2 qo (Array.getElem?_eq_some_iff.mp ho).1 (fun (w2 : g_own GM qo) => by have := w2.2.1; omega)).trans ho
  refine lv_icmp_eq (tgt := 1492) hx hb dL_1349 (by decide) (fun _ => ?_) (fun w => absurd rfl w)
  exact kk _ _ H2 locs2 hs' ⟨R1, R2, ⟨ov, ho⟩, hS, hnB⟩
def Op_rolled (ΓC ΓM : ly) (Sim Sim2 : mm → mm → Prop) : Prop := ∀ (σC σM : mm) (a1 : Int32) , Sim σC σM → ∃ (r : Int32) (σC' σM' : mm), (fX12_rolled ΓC.2 σC 64 a1 = some r ∧ σC' = σC) ∧ (fX13_rolled ΓM.2 σM 64 a1 = some (r, σM')) ∧ Sim2 σC' σM'
theorem law_rolled {p : Program} {l : Launch} {e : Env} {s : State} {m : MethodId} {b : Nat} {below : List Frame} {meth : Method} {c : Code} {H : Heap} {locs : List Loc} {k n : Nat} {Z : State → Prop} {ls : Array Slot} {L : Nat} {xs : Nat → Int32} {GC GM : gg} {ΓC ΓM : ly} {σC σM : mm} {cJ : ClassId} {qo i : Nat} {Sim Sim2 : mm → mm → Prop} {NB : Heap → Prop} (hnb : NBs GC GM qo NB) (hop : Op_rolled ΓC ΓM Sim Sim2) (hx : p.tables.exec = Jvm.exec) (hb : c.code = code) (hml : c.maxLocals = 7) (hown : s.vm.findClass RL = some m.cls) (hts : ∀ w ∈ lw_tbl, w.before #[Value.ref b] s = true) (hX : va_X b L xs s s.heap) (hbl : b < s.heap.size) (hL3 : L ≤ 3072) (F : LF GC GM cJ qo s) (tx : tyOK ΓC (0, 11) 64) (tm : tyOK ΓM (0, 12) 64) (hi : i + 6 ≤ L) (hk : k ≤ 601024) (hn : n ≤ 7293034) (hs : Sim σC σM) (I : LSt GC GM ΓC σC ΓM σM cJ qo NB s H locs) (hl : lv_has ls 7 [(0, .ref b), (1, .ref (GC.2.1 64)), (2, .ref (GM.2.1 64)), (3, .ref qo), (4, .int (nI i))])
    (kk : ∀ (σC' σM' : mm) (H1 : Heap) (locs1 : List Loc), Sim2 σC' σM' → LSt GC GM ΓC σC' ΓM σM' cJ qo NB s H1 locs1 → W p l e room_1 s m #[Value.ref b] below meth c H1 locs1 k n Z (F0 m 1492 ls [])) : W p l e room_1 s m #[Value.ref b] below meth c H locs k n Z (F0 m 1354 ls []) := by
  obtain ⟨R1, R2, ⟨ov, ho⟩, hS, hnB⟩ := I
  obtain ⟨k1, k2, f1, f2, b1, b2, b3, b4, b5, b6⟩ := F
  obtain ⟨r, σC', σM', e1, e2, hs'⟩ := hop σC σM (xs (i + 1)) hs
  refine lv_aload_n hx hb dL_1354 rfl (lv_at hl 1 rfl) ?_
  refine L_arg 1 0 4 hx hb hX hbl hL3 hS hl rfl rfl (by omega) (by decide) dL_1355 dL_1356 dL_1358 dL_1359 dL_1360 ?_
  obtain ⟨e1, q1⟩ := e1
  rw [q1] at hs'
  refine L_call (G := GC) (Γ := ΓC) (σ := σC) (σ2 := σC) (a := 64) (ci := 11) (r := r) [.int (xs (i + 1))] hx hb hml hown hts dL_1361 cvL_175 rfl rfl tx rfl rfl (Nat.le_of_ble_eq_true rfl) R1 k1 b1 hS hl.1 hk hn (kX12_rolled 2047 (by decide) 64 (xs (i + 1)) tx r e1) (fun H1 locs1 R1 z1 o1 hS => ?_)
  have R2 := R2.off (H1 := H1) f2 k2.2.1 (fun q9 hq (w : g_own GM q9) => o1 q9 hq (fun (w2 : g_own GC q9) => by have := w.1; have := w2.2.1; omega))
  have hnB := hnb H H1 hnB z1 (fun q9 h1 h2 _ _ => o1 q9 h1 h2)
  have ho : H1[qo]? = _ := (o1 qo (Array.getElem?_eq_some_iff.mp ho).1 (fun (w2 : g_own GC qo) => by have := w2.2.1; omega)).trans ho
  refine lv_aload_n hx hb dL_1364 rfl (lv_at hl 2 rfl) ?_
  refine L_arg 1 0 4 hx hb hX hbl hL3 hS hl rfl rfl (by omega) (by decide) dL_1365 dL_1366 dL_1368 dL_1369 dL_1370 ?_
  refine L_call (G := GM) (Γ := ΓM) (σ := σM) (σ2 := σM') (a := 64) (ci := 12) (r := r) [.int (xs (i + 1))] hx hb hml hown hts dL_1371 cvL_178 rfl rfl tm rfl rfl (Nat.le_of_ble_eq_true rfl) R2 k2 b2 hS hl.1 hk hn (kX13_rolled 2047 (by decide) 64 (xs (i + 1)) tm (r, σM') e2) (fun H2 locs2 R2 z2 o2 hS => ?_)
  have R1 := R1.off (H1 := H2) f1 k1.2.1 (fun q9 hq (w : g_own GC q9) => o2 q9 hq (fun (w2 : g_own GM q9) => by have := w.2.1; have := w2.1; omega))
  have hnB := hnb H1 H2 hnB z2 (fun q9 h1 _ h2 _ => o2 q9 h1 h2)
  have ho : H2[qo]? = _ := (o2 qo (Array.getElem?_eq_some_iff.mp ho).1 (fun (w2 : g_own GM qo) => by have := w2.2.1; omega)).trans ho
  refine lv_icmp_eq (tgt := 1492) hx hb dL_1374 (by decide) (fun _ => ?_) (fun w => absurd rfl w)
  exact kk _ _ H2 locs2 hs' ⟨R1, R2, ⟨ov, ho⟩, hS, hnB⟩
def Op_sentence (ΓC ΓM : ly) (Sim Sim2 : mm → mm → Prop) : Prop := ∀ (σC σM : mm) , Sim σC σM → ∃ (r : Int32) (σC' σM' : mm), (fX12_sentence ΓC.2 σC 64  = some (r, σC')) ∧ (fX13_sentence ΓM.2 σM 64  = some (r, σM')) ∧ Sim2 σC' σM'
theorem law_sentence {p : Program} {l : Launch} {e : Env} {s : State} {m : MethodId} {b : Nat} {below : List Frame} {meth : Method} {c : Code} {H : Heap} {locs : List Loc} {k n : Nat} {Z : State → Prop} {ls : Array Slot} {L : Nat} {xs : Nat → Int32} {GC GM : gg} {ΓC ΓM : ly} {σC σM : mm} {cJ : ClassId} {qo i : Nat} {Sim Sim2 : mm → mm → Prop} {NB : Heap → Prop} (hnb : NBs GC GM qo NB) (hop : Op_sentence ΓC ΓM Sim Sim2) (hx : p.tables.exec = Jvm.exec) (hb : c.code = code) (hml : c.maxLocals = 7) (hown : s.vm.findClass RL = some m.cls) (hts : ∀ w ∈ lw_tbl, w.before #[Value.ref b] s = true) (hX : va_X b L xs s s.heap) (hbl : b < s.heap.size) (hL3 : L ≤ 3072) (F : LF GC GM cJ qo s) (tx : tyOK ΓC (0, 11) 64) (tm : tyOK ΓM (0, 12) 64) (hi : i + 6 ≤ L) (hk : k ≤ 601024) (hn : n ≤ 7293034) (hs : Sim σC σM) (I : LSt GC GM ΓC σC ΓM σM cJ qo NB s H locs) (hl : lv_has ls 7 [(0, .ref b), (1, .ref (GC.2.1 64)), (2, .ref (GM.2.1 64)), (3, .ref qo), (4, .int (nI i))])
    (kk : ∀ (σC' σM' : mm) (H1 : Heap) (locs1 : List Loc), Sim2 σC' σM' → LSt GC GM ΓC σC' ΓM σM' cJ qo NB s H1 locs1 → W p l e room_1 s m #[Value.ref b] below meth c H1 locs1 k n Z (F0 m 1492 ls [])) : W p l e room_1 s m #[Value.ref b] below meth c H locs k n Z (F0 m 1379 ls []) := by
  obtain ⟨R1, R2, ⟨ov, ho⟩, hS, hnB⟩ := I
  obtain ⟨k1, k2, f1, f2, b1, b2, b3, b4, b5, b6⟩ := F
  obtain ⟨r, σC', σM', e1, e2, hs'⟩ := hop σC σM  hs
  refine lv_aload_n hx hb dL_1379 rfl (lv_at hl 1 rfl) ?_
  refine L_call (G := GC) (Γ := ΓC) (σ := σC) (σ2 := σC') (a := 64) (ci := 11) (r := r) [] hx hb hml hown hts dL_1380 cvL_179 rfl rfl tx rfl rfl (Nat.le_of_ble_eq_true rfl) R1 k1 b1 hS hl.1 hk hn (kX12_sentence 2047 (by decide) 64  tx (r, σC') e1) (fun H1 locs1 R1 z1 o1 hS => ?_)
  have R2 := R2.off (H1 := H1) f2 k2.2.1 (fun q9 hq (w : g_own GM q9) => o1 q9 hq (fun (w2 : g_own GC q9) => by have := w.1; have := w2.2.1; omega))
  have hnB := hnb H H1 hnB z1 (fun q9 h1 h2 _ _ => o1 q9 h1 h2)
  have ho : H1[qo]? = _ := (o1 qo (Array.getElem?_eq_some_iff.mp ho).1 (fun (w2 : g_own GC qo) => by have := w2.2.1; omega)).trans ho
  refine lv_aload_n hx hb dL_1383 rfl (lv_at hl 2 rfl) ?_
  refine L_call (G := GM) (Γ := ΓM) (σ := σM) (σ2 := σM') (a := 64) (ci := 12) (r := r) [] hx hb hml hown hts dL_1384 cvL_182 rfl rfl tm rfl rfl (Nat.le_of_ble_eq_true rfl) R2 k2 b2 hS hl.1 hk hn (kX13_sentence 2047 (by decide) 64  tm (r, σM') e2) (fun H2 locs2 R2 z2 o2 hS => ?_)
  have R1 := R1.off (H1 := H2) f1 k1.2.1 (fun q9 hq (w : g_own GC q9) => o2 q9 hq (fun (w2 : g_own GM q9) => by have := w.2.1; have := w2.1; omega))
  have hnB := hnb H1 H2 hnB z2 (fun q9 h1 _ h2 _ => o2 q9 h1 h2)
  have ho : H2[qo]? = _ := (o2 qo (Array.getElem?_eq_some_iff.mp ho).1 (fun (w2 : g_own GM qo) => by have := w2.2.1; omega)).trans ho
  refine lv_icmp_eq (tgt := 1492) hx hb dL_1387 (by decide) (fun _ => ?_) (fun w => absurd rfl w)
  exact kk _ _ H2 locs2 hs' ⟨R1, R2, ⟨ov, ho⟩, hS, hnB⟩
def Op_said (ΓC ΓM : ly) (Sim Sim2 : mm → mm → Prop) : Prop := ∀ (σC σM : mm) (a1 : Int32) , Sim σC σM → ∃ (r : Int32) (σC' σM' : mm), (fX12_said ΓC.2 σC 64 a1 = some r ∧ σC' = σC) ∧ (fX13_said ΓM.2 σM 64 a1 = some (r, σM')) ∧ Sim2 σC' σM'
theorem law_said {p : Program} {l : Launch} {e : Env} {s : State} {m : MethodId} {b : Nat} {below : List Frame} {meth : Method} {c : Code} {H : Heap} {locs : List Loc} {k n : Nat} {Z : State → Prop} {ls : Array Slot} {L : Nat} {xs : Nat → Int32} {GC GM : gg} {ΓC ΓM : ly} {σC σM : mm} {cJ : ClassId} {qo i : Nat} {Sim Sim2 : mm → mm → Prop} {NB : Heap → Prop} (hnb : NBs GC GM qo NB) (hop : Op_said ΓC ΓM Sim Sim2) (hx : p.tables.exec = Jvm.exec) (hb : c.code = code) (hml : c.maxLocals = 7) (hown : s.vm.findClass RL = some m.cls) (hts : ∀ w ∈ lw_tbl, w.before #[Value.ref b] s = true) (hX : va_X b L xs s s.heap) (hbl : b < s.heap.size) (hL3 : L ≤ 3072) (F : LF GC GM cJ qo s) (tx : tyOK ΓC (0, 11) 64) (tm : tyOK ΓM (0, 12) 64) (hi : i + 6 ≤ L) (hk : k ≤ 601024) (hn : n ≤ 7293034) (hs : Sim σC σM) (I : LSt GC GM ΓC σC ΓM σM cJ qo NB s H locs) (hl : lv_has ls 7 [(0, .ref b), (1, .ref (GC.2.1 64)), (2, .ref (GM.2.1 64)), (3, .ref qo), (4, .int (nI i))])
    (kk : ∀ (σC' σM' : mm) (H1 : Heap) (locs1 : List Loc), Sim2 σC' σM' → LSt GC GM ΓC σC' ΓM σM' cJ qo NB s H1 locs1 → W p l e room_1 s m #[Value.ref b] below meth c H1 locs1 k n Z (F0 m 1492 ls [])) : W p l e room_1 s m #[Value.ref b] below meth c H locs k n Z (F0 m 1392 ls []) := by
  obtain ⟨R1, R2, ⟨ov, ho⟩, hS, hnB⟩ := I
  obtain ⟨k1, k2, f1, f2, b1, b2, b3, b4, b5, b6⟩ := F
  obtain ⟨r, σC', σM', e1, e2, hs'⟩ := hop σC σM (xs (i + 1)) hs
  refine lv_aload_n hx hb dL_1392 rfl (lv_at hl 1 rfl) ?_
  refine L_arg 1 0 4 hx hb hX hbl hL3 hS hl rfl rfl (by omega) (by decide) dL_1393 dL_1394 dL_1396 dL_1397 dL_1398 ?_
  obtain ⟨e1, q1⟩ := e1
  rw [q1] at hs'
  refine L_call (G := GC) (Γ := ΓC) (σ := σC) (σ2 := σC) (a := 64) (ci := 11) (r := r) [.int (xs (i + 1))] hx hb hml hown hts dL_1399 cvL_183 rfl rfl tx rfl rfl (Nat.le_of_ble_eq_true rfl) R1 k1 b1 hS hl.1 hk hn (kX12_said 2047 (by decide) 64 (xs (i + 1)) tx r e1) (fun H1 locs1 R1 z1 o1 hS => ?_)
  have R2 := R2.off (H1 := H1) f2 k2.2.1 (fun q9 hq (w : g_own GM q9) => o1 q9 hq (fun (w2 : g_own GC q9) => by have := w.1; have := w2.2.1; omega))
  have hnB := hnb H H1 hnB z1 (fun q9 h1 h2 _ _ => o1 q9 h1 h2)
  have ho : H1[qo]? = _ := (o1 qo (Array.getElem?_eq_some_iff.mp ho).1 (fun (w2 : g_own GC qo) => by have := w2.2.1; omega)).trans ho
  refine lv_aload_n hx hb dL_1402 rfl (lv_at hl 2 rfl) ?_
  refine L_arg 1 0 4 hx hb hX hbl hL3 hS hl rfl rfl (by omega) (by decide) dL_1403 dL_1404 dL_1406 dL_1407 dL_1408 ?_
  refine L_call (G := GM) (Γ := ΓM) (σ := σM) (σ2 := σM') (a := 64) (ci := 12) (r := r) [.int (xs (i + 1))] hx hb hml hown hts dL_1409 cvL_186 rfl rfl tm rfl rfl (Nat.le_of_ble_eq_true rfl) R2 k2 b2 hS hl.1 hk hn (kX13_said 2047 (by decide) 64 (xs (i + 1)) tm (r, σM') e2) (fun H2 locs2 R2 z2 o2 hS => ?_)
  have R1 := R1.off (H1 := H2) f1 k1.2.1 (fun q9 hq (w : g_own GC q9) => o2 q9 hq (fun (w2 : g_own GM q9) => by have := w.2.1; have := w2.1; omega))
  have hnB := hnb H1 H2 hnB z2 (fun q9 h1 _ h2 _ => o2 q9 h1 h2)
  have ho : H2[qo]? = _ := (o2 qo (Array.getElem?_eq_some_iff.mp ho).1 (fun (w2 : g_own GM qo) => by have := w2.2.1; omega)).trans ho
  refine lv_icmp_eq (tgt := 1492) hx hb dL_1412 (by decide) (fun _ => ?_) (fun w => absurd rfl w)
  exact kk _ _ H2 locs2 hs' ⟨R1, R2, ⟨ov, ho⟩, hS, hnB⟩
def Op_image (ΓC ΓM : ly) (Sim Sim2 : mm → mm → Prop) : Prop := ∀ (σC σM : mm) (a1 : Int32) , Sim σC σM → ∃ (r : Int32) (σC' σM' : mm), (fX12_image ΓC.2 σC 64 a1 = some (r, σC')) ∧ (fX13_image ΓM.2 σM 64 a1 = some (r, σM')) ∧ Sim2 σC' σM'
theorem law_image {p : Program} {l : Launch} {e : Env} {s : State} {m : MethodId} {b : Nat} {below : List Frame} {meth : Method} {c : Code} {H : Heap} {locs : List Loc} {k n : Nat} {Z : State → Prop} {ls : Array Slot} {L : Nat} {xs : Nat → Int32} {GC GM : gg} {ΓC ΓM : ly} {σC σM : mm} {cJ : ClassId} {qo i : Nat} {Sim Sim2 : mm → mm → Prop} {NB : Heap → Prop} (hnb : NBs GC GM qo NB) (hop : Op_image ΓC ΓM Sim Sim2) (hx : p.tables.exec = Jvm.exec) (hb : c.code = code) (hml : c.maxLocals = 7) (hown : s.vm.findClass RL = some m.cls) (hts : ∀ w ∈ lw_tbl, w.before #[Value.ref b] s = true) (hX : va_X b L xs s s.heap) (hbl : b < s.heap.size) (hL3 : L ≤ 3072) (F : LF GC GM cJ qo s) (tx : tyOK ΓC (0, 11) 64) (tm : tyOK ΓM (0, 12) 64) (hi : i + 6 ≤ L) (hk : k ≤ 601024) (hn : n ≤ 7293034) (hs : Sim σC σM) (I : LSt GC GM ΓC σC ΓM σM cJ qo NB s H locs) (hl : lv_has ls 7 [(0, .ref b), (1, .ref (GC.2.1 64)), (2, .ref (GM.2.1 64)), (3, .ref qo), (4, .int (nI i))])
    (kk : ∀ (σC' σM' : mm) (H1 : Heap) (locs1 : List Loc), Sim2 σC' σM' → LSt GC GM ΓC σC' ΓM σM' cJ qo NB s H1 locs1 → W p l e room_1 s m #[Value.ref b] below meth c H1 locs1 k n Z (F0 m 1492 ls [])) : W p l e room_1 s m #[Value.ref b] below meth c H locs k n Z (F0 m 1417 ls []) := by
  obtain ⟨R1, R2, ⟨ov, ho⟩, hS, hnB⟩ := I
  obtain ⟨k1, k2, f1, f2, b1, b2, b3, b4, b5, b6⟩ := F
  obtain ⟨r, σC', σM', e1, e2, hs'⟩ := hop σC σM (xs (i + 1)) hs
  refine lv_aload_n hx hb dL_1417 rfl (lv_at hl 1 rfl) ?_
  refine L_arg 1 0 4 hx hb hX hbl hL3 hS hl rfl rfl (by omega) (by decide) dL_1418 dL_1419 dL_1421 dL_1422 dL_1423 ?_
  refine L_call (G := GC) (Γ := ΓC) (σ := σC) (σ2 := σC') (a := 64) (ci := 11) (r := r) [.int (xs (i + 1))] hx hb hml hown hts dL_1424 cvL_187 rfl rfl tx rfl rfl (Nat.le_of_ble_eq_true rfl) R1 k1 b1 hS hl.1 hk hn (kX12_image 2047 (by decide) 64 (xs (i + 1)) tx (r, σC') e1) (fun H1 locs1 R1 z1 o1 hS => ?_)
  have R2 := R2.off (H1 := H1) f2 k2.2.1 (fun q9 hq (w : g_own GM q9) => o1 q9 hq (fun (w2 : g_own GC q9) => by have := w.1; have := w2.2.1; omega))
  have hnB := hnb H H1 hnB z1 (fun q9 h1 h2 _ _ => o1 q9 h1 h2)
  have ho : H1[qo]? = _ := (o1 qo (Array.getElem?_eq_some_iff.mp ho).1 (fun (w2 : g_own GC qo) => by have := w2.2.1; omega)).trans ho
  refine lv_aload_n hx hb dL_1427 rfl (lv_at hl 2 rfl) ?_
  refine L_arg 1 0 4 hx hb hX hbl hL3 hS hl rfl rfl (by omega) (by decide) dL_1428 dL_1429 dL_1431 dL_1432 dL_1433 ?_
  refine L_call (G := GM) (Γ := ΓM) (σ := σM) (σ2 := σM') (a := 64) (ci := 12) (r := r) [.int (xs (i + 1))] hx hb hml hown hts dL_1434 cvL_190 rfl rfl tm rfl rfl (Nat.le_of_ble_eq_true rfl) R2 k2 b2 hS hl.1 hk hn (kX13_image 2047 (by decide) 64 (xs (i + 1)) tm (r, σM') e2) (fun H2 locs2 R2 z2 o2 hS => ?_)
  have R1 := R1.off (H1 := H2) f1 k1.2.1 (fun q9 hq (w : g_own GC q9) => o2 q9 hq (fun (w2 : g_own GM q9) => by have := w.2.1; have := w2.1; omega))
  have hnB := hnb H1 H2 hnB z2 (fun q9 h1 _ h2 _ => o2 q9 h1 h2)
  have ho : H2[qo]? = _ := (o2 qo (Array.getElem?_eq_some_iff.mp ho).1 (fun (w2 : g_own GM qo) => by have := w2.2.1; omega)).trans ho
  refine lv_icmp_eq (tgt := 1492) hx hb dL_1437 (by decide) (fun _ => ?_) (fun w => absurd rfl w)
  exact kk _ _ H2 locs2 hs' ⟨R1, R2, ⟨ov, ho⟩, hS, hnB⟩
def Op_restore (ΓC ΓM : ly) (Sim Sim2 : mm → mm → Prop) : Prop := ∀ (σC σM : mm) (a1 : Int32) , Sim σC σM → ∃ (r : Int32) (σC' σM' : mm), (fX12_restore ΓC.2 σC 64 a1 = some (r, σC')) ∧ (fX13_restore ΓM.2 σM 64 a1 = some (r, σM')) ∧ Sim2 σC' σM'
theorem law_restore {p : Program} {l : Launch} {e : Env} {s : State} {m : MethodId} {b : Nat} {below : List Frame} {meth : Method} {c : Code} {H : Heap} {locs : List Loc} {k n : Nat} {Z : State → Prop} {ls : Array Slot} {L : Nat} {xs : Nat → Int32} {GC GM : gg} {ΓC ΓM : ly} {σC σM : mm} {cJ : ClassId} {qo i : Nat} {Sim Sim2 : mm → mm → Prop} {NB : Heap → Prop} (hnb : NBs GC GM qo NB) (hop : Op_restore ΓC ΓM Sim Sim2) (hx : p.tables.exec = Jvm.exec) (hb : c.code = code) (hml : c.maxLocals = 7) (hown : s.vm.findClass RL = some m.cls) (hts : ∀ w ∈ lw_tbl, w.before #[Value.ref b] s = true) (hX : va_X b L xs s s.heap) (hbl : b < s.heap.size) (hL3 : L ≤ 3072) (F : LF GC GM cJ qo s) (tx : tyOK ΓC (0, 11) 64) (tm : tyOK ΓM (0, 12) 64) (hi : i + 6 ≤ L) (hk : k ≤ 601024) (hn : n ≤ 7293034) (hs : Sim σC σM) (I : LSt GC GM ΓC σC ΓM σM cJ qo NB s H locs) (hl : lv_has ls 7 [(0, .ref b), (1, .ref (GC.2.1 64)), (2, .ref (GM.2.1 64)), (3, .ref qo), (4, .int (nI i))])
    (kk : ∀ (σC' σM' : mm) (H1 : Heap) (locs1 : List Loc), Sim2 σC' σM' → LSt GC GM ΓC σC' ΓM σM' cJ qo NB s H1 locs1 → W p l e room_1 s m #[Value.ref b] below meth c H1 locs1 k n Z (F0 m 1492 ls [])) : W p l e room_1 s m #[Value.ref b] below meth c H locs k n Z (F0 m 1442 ls []) := by
  obtain ⟨R1, R2, ⟨ov, ho⟩, hS, hnB⟩ := I
  obtain ⟨k1, k2, f1, f2, b1, b2, b3, b4, b5, b6⟩ := F
  obtain ⟨r, σC', σM', e1, e2, hs'⟩ := hop σC σM (xs (i + 1)) hs
  refine lv_aload_n hx hb dL_1442 rfl (lv_at hl 1 rfl) ?_
  refine L_arg 1 0 4 hx hb hX hbl hL3 hS hl rfl rfl (by omega) (by decide) dL_1443 dL_1444 dL_1446 dL_1447 dL_1448 ?_
  refine L_call (G := GC) (Γ := ΓC) (σ := σC) (σ2 := σC') (a := 64) (ci := 11) (r := r) [.int (xs (i + 1))] hx hb hml hown hts dL_1449 cvL_191 rfl rfl tx rfl rfl (Nat.le_of_ble_eq_true rfl) R1 k1 b1 hS hl.1 hk hn (kX12_restore 2047 (by decide) 64 (xs (i + 1)) tx (r, σC') e1) (fun H1 locs1 R1 z1 o1 hS => ?_)
  have R2 := R2.off (H1 := H1) f2 k2.2.1 (fun q9 hq (w : g_own GM q9) => o1 q9 hq (fun (w2 : g_own GC q9) => by have := w.1; have := w2.2.1; omega))
  have hnB := hnb H H1 hnB z1 (fun q9 h1 h2 _ _ => o1 q9 h1 h2)
  have ho : H1[qo]? = _ := (o1 qo (Array.getElem?_eq_some_iff.mp ho).1 (fun (w2 : g_own GC qo) => by have := w2.2.1; omega)).trans ho
  refine lv_aload_n hx hb dL_1452 rfl (lv_at hl 2 rfl) ?_
  refine L_arg 1 0 4 hx hb hX hbl hL3 hS hl rfl rfl (by omega) (by decide) dL_1453 dL_1454 dL_1456 dL_1457 dL_1458 ?_
  refine L_call (G := GM) (Γ := ΓM) (σ := σM) (σ2 := σM') (a := 64) (ci := 12) (r := r) [.int (xs (i + 1))] hx hb hml hown hts dL_1459 cvL_194 rfl rfl tm rfl rfl (Nat.le_of_ble_eq_true rfl) R2 k2 b2 hS hl.1 hk hn (kX13_restore 2047 (by decide) 64 (xs (i + 1)) tm (r, σM') e2) (fun H2 locs2 R2 z2 o2 hS => ?_)
  have R1 := R1.off (H1 := H2) f1 k1.2.1 (fun q9 hq (w : g_own GC q9) => o2 q9 hq (fun (w2 : g_own GM q9) => by have := w.2.1; have := w2.1; omega))
  have hnB := hnb H1 H2 hnB z2 (fun q9 h1 _ h2 _ => o2 q9 h1 h2)
  have ho : H2[qo]? = _ := (o2 qo (Array.getElem?_eq_some_iff.mp ho).1 (fun (w2 : g_own GM qo) => by have := w2.2.1; omega)).trans ho
  refine lv_icmp_eq (tgt := 1492) hx hb dL_1462 (by decide) (fun _ => ?_) (fun w => absurd rfl w)
  exact kk _ _ H2 locs2 hs' ⟨R1, R2, ⟨ov, ho⟩, hS, hnB⟩
def Op_count (ΓC ΓM : ly) (Sim Sim2 : mm → mm → Prop) : Prop := ∀ (σC σM : mm) (a1 : Int32) , Sim σC σM → ∃ (r : Int32) (σC' σM' : mm), (fX12_count ΓC.2 σC 64 a1 = some r ∧ σC' = σC) ∧ (fX13_count ΓM.2 σM 64 a1 = some (r, σM')) ∧ Sim2 σC' σM'
theorem law_count {p : Program} {l : Launch} {e : Env} {s : State} {m : MethodId} {b : Nat} {below : List Frame} {meth : Method} {c : Code} {H : Heap} {locs : List Loc} {k n : Nat} {Z : State → Prop} {ls : Array Slot} {L : Nat} {xs : Nat → Int32} {GC GM : gg} {ΓC ΓM : ly} {σC σM : mm} {cJ : ClassId} {qo i : Nat} {Sim Sim2 : mm → mm → Prop} {NB : Heap → Prop} (hnb : NBs GC GM qo NB) (hop : Op_count ΓC ΓM Sim Sim2) (hx : p.tables.exec = Jvm.exec) (hb : c.code = code) (hml : c.maxLocals = 7) (hown : s.vm.findClass RL = some m.cls) (hts : ∀ w ∈ lw_tbl, w.before #[Value.ref b] s = true) (hX : va_X b L xs s s.heap) (hbl : b < s.heap.size) (hL3 : L ≤ 3072) (F : LF GC GM cJ qo s) (tx : tyOK ΓC (0, 11) 64) (tm : tyOK ΓM (0, 12) 64) (hi : i + 6 ≤ L) (hk : k ≤ 601024) (hn : n ≤ 7293034) (hs : Sim σC σM) (I : LSt GC GM ΓC σC ΓM σM cJ qo NB s H locs) (hl : lv_has ls 7 [(0, .ref b), (1, .ref (GC.2.1 64)), (2, .ref (GM.2.1 64)), (3, .ref qo), (4, .int (nI i))])
    (kk : ∀ (σC' σM' : mm) (H1 : Heap) (locs1 : List Loc), Sim2 σC' σM' → LSt GC GM ΓC σC' ΓM σM' cJ qo NB s H1 locs1 → W p l e room_1 s m #[Value.ref b] below meth c H1 locs1 k n Z (F0 m 1492 ls [])) : W p l e room_1 s m #[Value.ref b] below meth c H locs k n Z (F0 m 1467 ls []) := by
  obtain ⟨R1, R2, ⟨ov, ho⟩, hS, hnB⟩ := I
  obtain ⟨k1, k2, f1, f2, b1, b2, b3, b4, b5, b6⟩ := F
  obtain ⟨r, σC', σM', e1, e2, hs'⟩ := hop σC σM (xs (i + 1)) hs
  refine lv_aload_n hx hb dL_1467 rfl (lv_at hl 1 rfl) ?_
  refine L_arg 1 0 4 hx hb hX hbl hL3 hS hl rfl rfl (by omega) (by decide) dL_1468 dL_1469 dL_1471 dL_1472 dL_1473 ?_
  obtain ⟨e1, q1⟩ := e1
  rw [q1] at hs'
  refine L_call (G := GC) (Γ := ΓC) (σ := σC) (σ2 := σC) (a := 64) (ci := 11) (r := r) [.int (xs (i + 1))] hx hb hml hown hts dL_1474 cvL_195 rfl rfl tx rfl rfl (Nat.le_of_ble_eq_true rfl) R1 k1 b1 hS hl.1 hk hn (kX12_count 2047 (by decide) 64 (xs (i + 1)) tx r e1) (fun H1 locs1 R1 z1 o1 hS => ?_)
  have R2 := R2.off (H1 := H1) f2 k2.2.1 (fun q9 hq (w : g_own GM q9) => o1 q9 hq (fun (w2 : g_own GC q9) => by have := w.1; have := w2.2.1; omega))
  have hnB := hnb H H1 hnB z1 (fun q9 h1 h2 _ _ => o1 q9 h1 h2)
  have ho : H1[qo]? = _ := (o1 qo (Array.getElem?_eq_some_iff.mp ho).1 (fun (w2 : g_own GC qo) => by have := w2.2.1; omega)).trans ho
  refine lv_aload_n hx hb dL_1477 rfl (lv_at hl 2 rfl) ?_
  refine L_arg 1 0 4 hx hb hX hbl hL3 hS hl rfl rfl (by omega) (by decide) dL_1478 dL_1479 dL_1481 dL_1482 dL_1483 ?_
  refine L_call (G := GM) (Γ := ΓM) (σ := σM) (σ2 := σM') (a := 64) (ci := 12) (r := r) [.int (xs (i + 1))] hx hb hml hown hts dL_1484 cvL_198 rfl rfl tm rfl rfl (Nat.le_of_ble_eq_true rfl) R2 k2 b2 hS hl.1 hk hn (kX13_count 2047 (by decide) 64 (xs (i + 1)) tm (r, σM') e2) (fun H2 locs2 R2 z2 o2 hS => ?_)
  have R1 := R1.off (H1 := H2) f1 k1.2.1 (fun q9 hq (w : g_own GC q9) => o2 q9 hq (fun (w2 : g_own GM q9) => by have := w.2.1; have := w2.1; omega))
  have hnB := hnb H1 H2 hnB z2 (fun q9 h1 _ h2 _ => o2 q9 h1 h2)
  have ho : H2[qo]? = _ := (o2 qo (Array.getElem?_eq_some_iff.mp ho).1 (fun (w2 : g_own GM qo) => by have := w2.2.1; omega)).trans ho
  refine lv_icmp_eq (tgt := 1492) hx hb dL_1487 (by decide) (fun _ => ?_) (fun w => absurd rfl w)
  exact kk _ _ H2 locs2 hs' ⟨R1, R2, ⟨ov, ho⟩, hS, hnB⟩
