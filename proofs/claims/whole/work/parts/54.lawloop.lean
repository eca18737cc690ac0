/-! the law: its loop (the rows up to lw_At are the skeleton's) -/
def R_law : String := "GlassVowsLaw"
def lw_P (b : Addr) (xs : List Int32) (args : Array Value) (s : State) : Prop := args = #[.ref b] ∧ s.IntsAt b xs ∧ xs.length ≤ 3072 ∧ (Jvm.Cond.and given_1 narrow_1).before args s = true
def lw_Q (_ : Array Value) (s : State) (o : Outcome) (t : State) : Prop := o = .returned (some (.int 1)) ∧ Framed s o t [] 601024 7293034
def lw_Z (below : List Frame) (a : Array Value) (s : State) : State → Prop := fun t => ∃ o, t.status = .running ∧ Ended t below o ∧ lw_Q a s o t
/-- the law's own end, with 1 on the stack, nothing written that was there before, its room as the claim has it -/
theorem lw_ret {p : Program} {l : Launch} {e : Env} {s : State} {m : MethodId} {below : List Frame} {meth : Method} {c : Code} {b : Nat} (hx : p.tables.exec = Jvm.exec) (hb : c.code = code) (hr : meth.sig.returnType = ret) (hlocks : meth.locks = false) {pc : Nat} {H : Heap} {ls : Array Slot} (hdg : decode code pc = .ok (.ireturn, 1)) : W p l e room_1 s m #[Value.ref b] below meth c H [] 601024 7293034 (lw_Z below #[Value.ref b] s) (F0 m pc ls [.int 1]) := by
  intro T hT X
  obtain ⟨fs, hret, hrun, hended, hW, hframe⟩ := X.leave (v := some (.int 1)) (hlocks := hlocks) (fun h => by rw [hr] at h; cases h)
  have hmeth' : T.vm.method? m = some meth := X.method'
  refine ⟨T.setFrames fs, ?_, .returned (some (.int 1)), hrun, hended, rfl, ⟨_, rfl⟩, hW, hframe⟩
  jvm_step X.here [X.here.top, hx, hb, hdg, hmeth', hr, ret, narrow_b1]
  (try refine ⟨rfl, ?_⟩); (try refine ⟨rfl, ?_⟩)
  first | (intro acts; rw [hret _ acts rfl rfl rfl]) | rw [hret _ _ rfl rfl rfl]
  exact Steps.refl _
/-- what holds at the law's entry: the machine, the code, the tables' words (any of lw_tbl by 'hts w (by decide +kernel)'), the script of L ints xs at the cell b, what the Statement gives of the start (any of its parts by flat_of_before) -/
def lw_At (p : Program) (s : State) (m : MethodId) (meth : Method) (c : Code) (b L : Nat) (xs : Nat → Int32) : Prop :=
  p.tables.exec = Jvm.exec ∧ c.code = code ∧ meth.sig.returnType = ret ∧ c.maxLocals = 7 ∧ s.vm.findClass R_law = some m.cls ∧ (∀ w ∈ lw_tbl, w.before #[Value.ref b] s = true) ∧ va_X b L xs s s.heap ∧ b < s.heap.size ∧ meth.locks = false ∧ (Jvm.Cond.and given_1 narrow_1).before #[Value.ref b] s = true
/-- every plain operation agrees -/
def OpsOK (ΓC ΓM : ly) (Sim Sim2 : mm → mm → Prop) : Prop := Op_feed ΓC ΓM Sim Sim2 ∧ Op_end ΓC ΓM Sim Sim2 ∧ Op_parish ΓC ΓM Sim Sim2 ∧ Op_fault ΓC ΓM Sim Sim2 ∧ Op_now ΓC ΓM Sim Sim2 ∧ Op_turn ΓC ΓM Sim Sim2 ∧ Op_wake ΓC ΓM Sim Sim2 ∧ Op_woo ΓC ΓM Sim Sim2 ∧ Op_tilt ΓC ΓM Sim Sim2 ∧ Op_widen ΓC ΓM Sim Sim2 ∧ Op_spill ΓC ΓM Sim Sim2 ∧ Op_hours ΓC ΓM Sim Sim2 ∧ Op_undo ΓC ΓM Sim Sim2 ∧ Op_ends ΓC ΓM Sim Sim2 ∧ Op_lapses ΓC ΓM Sim Sim2 ∧ Op_soonest ΓC ΓM Sim Sim2 ∧ Op_watch ΓC ΓM Sim Sim2 ∧ Op_waking ΓC ΓM Sim Sim2 ∧ Op_chosen ΓC ΓM Sim Sim2 ∧ Op_choices ΓC ΓM Sim Sim2 ∧ Op_play ΓC ΓM Sim Sim2 ∧ Op_playAt ΓC ΓM Sim Sim2 ∧ Op_steal ΓC ΓM Sim Sim2 ∧ Op_parts ΓC ΓM Sim Sim2 ∧ Op_parted ΓC ΓM Sim Sim2 ∧ Op_good ΓC ΓM Sim Sim2 ∧ Op_law ΓC ΓM Sim Sim2 ∧ Op_rings ΓC ΓM Sim Sim2 ∧ Op_together ΓC ΓM Sim Sim2 ∧ Op_drawn ΓC ΓM Sim Sim2 ∧ Op_odds ΓC ΓM Sim Sim2 ∧ Op_roll ΓC ΓM Sim Sim2 ∧ Op_rolled ΓC ΓM Sim Sim2 ∧ Op_sentence ΓC ΓM Sim Sim2 ∧ Op_said ΓC ΓM Sim Sim2 ∧ Op_image ΓC ΓM Sim Sim2 ∧ Op_restore ΓC ΓM Sim Sim2 ∧ Op_count ΓC ΓM Sim Sim2
/-- a case that is walked by hand -/
def CaseOK (p : Program) (l : Launch) (e : Env) (s : State) (m : MethodId) (b : Nat) (below : List Frame) (meth : Method) (c : Code) (L : Nat) (xs : Nat → Int32) (GC GM : gg) (ΓC ΓM : ly) (cJ : ClassId) (qo : Nat) {τ : Type} (NB : τ → Heap → Prop) (Sim : Nat → τ → mm → mm → Prop) (pc : Nat) : Prop :=
  ∀ (i k n : Nat) (t : τ) (σC σM : mm) (H : Heap) (locs : List Loc) (ls : Array Slot) (Z : State → Prop), i + 6 ≤ L → k + 6 ≤ 601024 → n + 36 ≤ 7293034 → Sim i t σC σM → LSt GC GM ΓC σC ΓM σM cJ qo (NB t) s H locs → lv_has ls 7 [(0, .ref b), (1, .ref (GC.2.1 64)), (2, .ref (GM.2.1 64)), (3, .ref qo), (4, .int (nI i))] →
    (∀ (t' : τ) (σC' σM' : mm) (H1 : Heap) (locs1 : List Loc) (ls1 : Array Slot), Sim (i + 6) t' σC' σM' → LSt GC GM ΓC σC' ΓM σM' cJ qo (NB t') s H1 locs1 → lv_has ls1 7 [(0, .ref b), (1, .ref (GC.2.1 64)), (2, .ref (GM.2.1 64)), (3, .ref qo), (4, .int (nI i))] → W p l e room_1 s m #[Value.ref b] below meth c H1 locs1 (k + 6) (n + 36) Z (F0 m 1492 ls1 [])) →
    W p l e room_1 s m #[Value.ref b] below meth c H locs k n Z (F0 m pc ls [])
set_option maxHeartbeats 4000000 in
set_option maxRecDepth 100000 in
theorem law_loop {p : Program} {l : Launch} {e : Env} {s : State} {m : MethodId} {b : Nat} {below : List Frame} {meth : Method} {c : Code} {L : Nat} {xs : Nat → Int32} {GC GM : gg} {ΓC ΓM : ly} {cJ : ClassId} {qo K0 N0 : Nat} {τ : Type} {NB : τ → Heap → Prop} {Sim : Nat → τ → mm → mm → Prop} (hnb : ∀ t, NBs GC GM qo (NB t)) (hops : ∀ i t, i + 6 ≤ L → OpsOK ΓC ΓM (Sim i t) (Sim (i + 6) t)) (hdef : ∀ i t σC σM, i + 6 ≤ L → Sim i t σC σM → Sim (i + 6) t σC σM) (hc4 : CaseOK p l e s m b below meth c L xs GC GM ΓC ΓM cJ qo NB Sim 348) (hc5 : CaseOK p l e s m b below meth c L xs GC GM ΓC ΓM cJ qo NB Sim 416) (hc31 : CaseOK p l e s m b below meth c L xs GC GM ΓC ΓM cJ qo NB Sim 1193) (hc32 : CaseOK p l e s m b below meth c L xs GC GM ΓC ΓM cJ qo NB Sim 1218) (C0 : lw_At p s m meth c b L xs) (hL3 : L ≤ 3072) (F : LF GC GM cJ qo s) (tx : tyOK ΓC (0, 11) 64) (tm : tyOK ΓM (0, 12) 64) (hK0 : K0 + 6000 ≤ 601024) (hN0 : N0 + 40000 ≤ 7293034) :
    ∀ (N i : Nat) (t : τ) (σC σM : mm) (H : Heap) (locs : List Loc) (ls : Array Slot), i ≤ L → L + 1 ≤ i + N → Sim i t σC σM → LSt GC GM ΓC σC ΓM σM cJ qo (NB t) s H locs → lv_has ls 7 [(0, .ref b), (1, .ref (GC.2.1 64)), (2, .ref (GM.2.1 64)), (3, .ref qo), (4, .int (nI i))] → W p l e room_1 s m #[Value.ref b] below meth c H locs (K0 + i) (N0 + 6 * i) (lw_Z below #[Value.ref b] s) (F0 m 23 ls []) := by
  obtain ⟨hx, hb, hr, hml, hown, hts, hX, hbl, hlocks, hgv⟩ := id C0
  intro N
  induction N with
  | zero =>
    intro i t σC σM H locs ls h1 h2
    exact absurd h2 (by omega)
  | succ N ih =>
    intro i t σC σM H locs ls hi hiN hs I hl
    have hS := I.2.2.2.1
    have hbA : ¬ (fun q : Nat => s.heap.size ≤ q) b := Nat.not_le.mpr hbl
    have tail : i + 6 ≤ L → ∀ (t' : τ) (σC' σM' : mm) (H1 : Heap) (locs1 : List Loc) (ls1 : Array Slot), Sim (i + 6) t' σC' σM' → LSt GC GM ΓC σC' ΓM σM' cJ qo (NB t') s H1 locs1 → lv_has ls1 7 [(0, .ref b), (1, .ref (GC.2.1 64)), (2, .ref (GM.2.1 64)), (3, .ref qo), (4, .int (nI i))] → W p l e room_1 s m #[Value.ref b] below meth c H1 locs1 (K0 + i + 6) (N0 + 6 * i + 36) (lw_Z below #[Value.ref b] s) (F0 m 1492 ls1 []) := by
      intro h6 t' σC' σM' H1 locs1 ls1 hs1 I1 hl1
      refine lv_iinc (v := nI (i + 6)) (lv' := [(4, .int (nI (i + 6))), (0, .ref b), (1, .ref (GC.2.1 64)), (2, .ref (GM.2.1 64)), (3, .ref qo)]) hx hb dL_1492 hl1 (k := 4) rfl (by rw [show Int32.ofInt 6 = nI 6 from rfl, nI_add]) (by decide) rfl (fun ls2 hl2 => ?_)
      refine lv_goto (tgt := 23) hx hb dL_1495 (by decide) ?_
      refine W.widen (k := K0 + (i + 6)) (n := N0 + 6 * (i + 6)) (by omega) (by omega) ?_
      exact ih (i + 6) t' σC' σM' H1 locs1 ls2 h6 (by omega) hs1 I1 (lv_sub hl2 [1, 2, 3, 4, 0] rfl)
    refine lv_iload hx hb dL_23 (lv_at hl 4 rfl) ?_
    refine lv_aload_n hx hb dL_25 rfl (lv_at hl 0 rfl) ?_
    refine va_slen hx hb hX hbl hbA hS dL_26 ?_
    refine lv_bipush (v := 6) hx hb dL_27 (by decide) ?_
    refine lv_isub hx hb dL_29 ?_
    have hsub : (Int32.ofNat L - 6).toInt = (L : Int) - 6 := pk_sub_toInt (a := L) (b := 6) (by omega) (by omega)
    have hiI : (nI i).toInt = (i : Int) := nI_toInt (by omega)
    refine lv_icmp_gt (tgt := 1498) hx hb dL_30 (by decide) (fun _ => ?_) (fun hcm => ?_)
    · refine lv_iconst (v := 1) hx hb dL_1498 (by decide) ?_
      refine va_forget (fun q hq => hS.2.2 q hq) ?_
      refine W.widen (k := 601024) (n := 7293034) (by omega) (by omega) ?_
      exact lw_ret hx hb hr hlocks dL_1499
    · have h6 : i + 6 ≤ L := by
        have h9 : ¬ (Int32.ofNat L - 6).toInt < (nI i).toInt := fun q => hcm (Int32.lt_iff_toInt_lt.mpr q)
        rw [hsub, hiI] at h9
        omega
      have tl := tail h6
      refine lv_aload_n hx hb dL_33 rfl (lv_at hl 0 rfl) ?_
      refine lv_iload hx hb dL_34 (lv_at hl 4 rfl) ?_
      refine va_sld hx hb hX hbl hbA hS (vp_in_nI (n := i) (N := L) (by omega) (by omega)) dL_36 ?_
      refine lv_bipush (v := 63) hx hb dL_37 (by decide) ?_
      refine lv_iand hx hb dL_39 ?_
      obtain ⟨j, hj, ej⟩ := pk_andE (xs (nI i).toNatClampNeg) (m := 63) 6 (by decide)
      rw [ej]
      have hwd : ∀ {pc : Nat}, W p l e room_1 s m #[Value.ref b] below meth c H locs (K0 + i + 6) (N0 + 6 * i + 36) (lw_Z below #[Value.ref b] s) (F0 m pc ls []) → W p l e room_1 s m #[Value.ref b] below meth c H locs (K0 + i) (N0 + 6 * i) (lw_Z below #[Value.ref b] s) (F0 m pc ls []) := fun h => W.widen (by omega) (by omega) h
      have hk1 : K0 + i + 6 ≤ 601024 := by omega
      have hn1 : N0 + 6 * i + 36 ≤ 7293034 := by omega
      rcases (show j = 0 ∨ j = 1 ∨ j = 2 ∨ j = 3 ∨ j = 4 ∨ j = 5 ∨ j = 6 ∨ j = 7 ∨ j = 8 ∨ j = 9 ∨ j = 10 ∨ j = 11 ∨ j = 12 ∨ j = 13 ∨ j = 14 ∨ j = 15 ∨ j = 16 ∨ j = 17 ∨ j = 18 ∨ j = 19 ∨ j = 20 ∨ j = 21 ∨ j = 22 ∨ j = 23 ∨ j = 24 ∨ j = 25 ∨ j = 26 ∨ j = 27 ∨ j = 28 ∨ j = 29 ∨ j = 30 ∨ j = 31 ∨ j = 32 ∨ j = 33 ∨ j = 34 ∨ j = 35 ∨ j = 36 ∨ j = 37 ∨ j = 38 ∨ j = 39 ∨ j = 40 ∨ j = 41 ∨ 42 ≤ j by omega) with rfl | rfl | rfl | rfl | rfl | rfl | rfl | rfl | rfl | rfl | rfl | rfl | rfl | rfl | rfl | rfl | rfl | rfl | rfl | rfl | rfl | rfl | rfl | rfl | rfl | rfl | rfl | rfl | rfl | rfl | rfl | rfl | rfl | rfl | rfl | rfl | rfl | rfl | rfl | rfl | rfl | rfl | hj9
      · refine lv_tableIn (x := nI 0) (off := 184) (tgt := 224) hx hb dL_40 (by decide) (by decide) (by decide) (by decide) ?_
        exact hwd (law_feed (hnb t) (hops i t h6).1 hx hb hml hown hts hX hbl hL3 F tx tm h6 hk1 hn1 hs I hl (fun σC1 σM1 H1 locs1 hs1 I1 => tl t σC1 σM1 H1 locs1 ls hs1 I1 hl))
      · refine lv_tableIn (x := nI 1) (off := 257) (tgt := 297) hx hb dL_40 (by decide) (by decide) (by decide) (by decide) ?_
        exact hwd (law_end (hnb t) (hops i t h6).2.1 hx hb hml hown hts hX hbl hL3 F tx tm h6 hk1 hn1 hs I hl (fun σC1 σM1 H1 locs1 hs1 I1 => tl t σC1 σM1 H1 locs1 ls hs1 I1 hl))
      · refine lv_tableIn (x := nI 2) (off := 282) (tgt := 322) hx hb dL_40 (by decide) (by decide) (by decide) (by decide) ?_
        exact hwd (law_parish (hnb t) (hops i t h6).2.2.1 hx hb hml hown hts hX hbl hL3 F tx tm h6 hk1 hn1 hs I hl (fun σC1 σM1 H1 locs1 hs1 I1 => tl t σC1 σM1 H1 locs1 ls hs1 I1 hl))
      · refine lv_tableIn (x := nI 3) (off := 295) (tgt := 335) hx hb dL_40 (by decide) (by decide) (by decide) (by decide) ?_
        exact hwd (law_fault (hnb t) (hops i t h6).2.2.2.1 hx hb hml hown hts hX hbl hL3 F tx tm h6 hk1 hn1 hs I hl (fun σC1 σM1 H1 locs1 hs1 I1 => tl t σC1 σM1 H1 locs1 ls hs1 I1 hl))
      · refine lv_tableIn (x := nI 4) (off := 308) (tgt := 348) hx hb dL_40 (by decide) (by decide) (by decide) (by decide) ?_
        exact hc4 i _ _ t σC σM H locs ls _ h6 hk1 hn1 hs I hl tl
      · refine lv_tableIn (x := nI 5) (off := 376) (tgt := 416) hx hb dL_40 (by decide) (by decide) (by decide) (by decide) ?_
        exact hc5 i _ _ t σC σM H locs ls _ h6 hk1 hn1 hs I hl tl
      · refine lv_tableIn (x := nI 6) (off := 444) (tgt := 484) hx hb dL_40 (by decide) (by decide) (by decide) (by decide) ?_
        exact hwd (law_now (hnb t) (hops i t h6).2.2.2.2.1 hx hb hml hown hts hX hbl hL3 F tx tm h6 hk1 hn1 hs I hl (fun σC1 σM1 H1 locs1 hs1 I1 => tl t σC1 σM1 H1 locs1 ls hs1 I1 hl))
      · refine lv_tableIn (x := nI 7) (off := 469) (tgt := 509) hx hb dL_40 (by decide) (by decide) (by decide) (by decide) ?_
        exact hwd (law_turn (hnb t) (hops i t h6).2.2.2.2.2.1 hx hb hml hown hts hX hbl hL3 F tx tm h6 hk1 hn1 hs I hl (fun σC1 σM1 H1 locs1 hs1 I1 => tl t σC1 σM1 H1 locs1 ls hs1 I1 hl))
      · refine lv_tableIn (x := nI 8) (off := 494) (tgt := 534) hx hb dL_40 (by decide) (by decide) (by decide) (by decide) ?_
        exact hwd (law_wake (hnb t) (hops i t h6).2.2.2.2.2.2.1 hx hb hml hown hts hX hbl hL3 F tx tm h6 hk1 hn1 hs I hl (fun σC1 σM1 H1 locs1 hs1 I1 => tl t σC1 σM1 H1 locs1 ls hs1 I1 hl))
      · refine lv_tableIn (x := nI 9) (off := 519) (tgt := 559) hx hb dL_40 (by decide) (by decide) (by decide) (by decide) ?_
        exact hwd (law_woo (hnb t) (hops i t h6).2.2.2.2.2.2.2.1 hx hb hml hown hts hX hbl hL3 F tx tm h6 hk1 hn1 hs I hl (fun σC1 σM1 H1 locs1 hs1 I1 => tl t σC1 σM1 H1 locs1 ls hs1 I1 hl))
      · refine lv_tableIn (x := nI 10) (off := 556) (tgt := 596) hx hb dL_40 (by decide) (by decide) (by decide) (by decide) ?_
        exact hwd (law_tilt (hnb t) (hops i t h6).2.2.2.2.2.2.2.2.1 hx hb hml hown hts hX hbl hL3 F tx tm h6 hk1 hn1 hs I hl (fun σC1 σM1 H1 locs1 hs1 I1 => tl t σC1 σM1 H1 locs1 ls hs1 I1 hl))
      · refine lv_tableIn (x := nI 11) (off := 593) (tgt := 633) hx hb dL_40 (by decide) (by decide) (by decide) (by decide) ?_
        exact hwd (law_widen (hnb t) (hops i t h6).2.2.2.2.2.2.2.2.2.1 hx hb hml hown hts hX hbl hL3 F tx tm h6 hk1 hn1 hs I hl (fun σC1 σM1 H1 locs1 hs1 I1 => tl t σC1 σM1 H1 locs1 ls hs1 I1 hl))
      · refine lv_tableIn (x := nI 12) (off := 630) (tgt := 670) hx hb dL_40 (by decide) (by decide) (by decide) (by decide) ?_
        exact hwd (law_spill (hnb t) (hops i t h6).2.2.2.2.2.2.2.2.2.2.1 hx hb hml hown hts hX hbl hL3 F tx tm h6 hk1 hn1 hs I hl (fun σC1 σM1 H1 locs1 hs1 I1 => tl t σC1 σM1 H1 locs1 ls hs1 I1 hl))
      · refine lv_tableIn (x := nI 13) (off := 667) (tgt := 707) hx hb dL_40 (by decide) (by decide) (by decide) (by decide) ?_
        exact hwd (law_hours (hnb t) (hops i t h6).2.2.2.2.2.2.2.2.2.2.2.1 hx hb hml hown hts hX hbl hL3 F tx tm h6 hk1 hn1 hs I hl (fun σC1 σM1 H1 locs1 hs1 I1 => tl t σC1 σM1 H1 locs1 ls hs1 I1 hl))
      · refine lv_tableIn (x := nI 14) (off := 692) (tgt := 732) hx hb dL_40 (by decide) (by decide) (by decide) (by decide) ?_
        exact hwd (law_undo (hnb t) (hops i t h6).2.2.2.2.2.2.2.2.2.2.2.2.1 hx hb hml hown hts hX hbl hL3 F tx tm h6 hk1 hn1 hs I hl (fun σC1 σM1 H1 locs1 hs1 I1 => tl t σC1 σM1 H1 locs1 ls hs1 I1 hl))
      · refine lv_tableIn (x := nI 15) (off := 705) (tgt := 745) hx hb dL_40 (by decide) (by decide) (by decide) (by decide) ?_
        exact hwd (law_ends (hnb t) (hops i t h6).2.2.2.2.2.2.2.2.2.2.2.2.2.1 hx hb hml hown hts hX hbl hL3 F tx tm h6 hk1 hn1 hs I hl (fun σC1 σM1 H1 locs1 hs1 I1 => tl t σC1 σM1 H1 locs1 ls hs1 I1 hl))
      · refine lv_tableIn (x := nI 16) (off := 730) (tgt := 770) hx hb dL_40 (by decide) (by decide) (by decide) (by decide) ?_
        exact hwd (law_lapses (hnb t) (hops i t h6).2.2.2.2.2.2.2.2.2.2.2.2.2.2.1 hx hb hml hown hts hX hbl hL3 F tx tm h6 hk1 hn1 hs I hl (fun σC1 σM1 H1 locs1 hs1 I1 => tl t σC1 σM1 H1 locs1 ls hs1 I1 hl))
      · refine lv_tableIn (x := nI 17) (off := 755) (tgt := 795) hx hb dL_40 (by decide) (by decide) (by decide) (by decide) ?_
        exact hwd (law_soonest (hnb t) (hops i t h6).2.2.2.2.2.2.2.2.2.2.2.2.2.2.2.1 hx hb hml hown hts hX hbl hL3 F tx tm h6 hk1 hn1 hs I hl (fun σC1 σM1 H1 locs1 hs1 I1 => tl t σC1 σM1 H1 locs1 ls hs1 I1 hl))
      · refine lv_tableIn (x := nI 18) (off := 768) (tgt := 808) hx hb dL_40 (by decide) (by decide) (by decide) (by decide) ?_
        exact hwd (law_watch (hnb t) (hops i t h6).2.2.2.2.2.2.2.2.2.2.2.2.2.2.2.2.1 hx hb hml hown hts hX hbl hL3 F tx tm h6 hk1 hn1 hs I hl (fun σC1 σM1 H1 locs1 hs1 I1 => tl t σC1 σM1 H1 locs1 ls hs1 I1 hl))
      · refine lv_tableIn (x := nI 19) (off := 805) (tgt := 845) hx hb dL_40 (by decide) (by decide) (by decide) (by decide) ?_
        exact hwd (law_waking (hnb t) (hops i t h6).2.2.2.2.2.2.2.2.2.2.2.2.2.2.2.2.2.1 hx hb hml hown hts hX hbl hL3 F tx tm h6 hk1 hn1 hs I hl (fun σC1 σM1 H1 locs1 hs1 I1 => tl t σC1 σM1 H1 locs1 ls hs1 I1 hl))
      · refine lv_tableIn (x := nI 20) (off := 830) (tgt := 870) hx hb dL_40 (by decide) (by decide) (by decide) (by decide) ?_
        exact hwd (law_chosen (hnb t) (hops i t h6).2.2.2.2.2.2.2.2.2.2.2.2.2.2.2.2.2.2.1 hx hb hml hown hts hX hbl hL3 F tx tm h6 hk1 hn1 hs I hl (fun σC1 σM1 H1 locs1 hs1 I1 => tl t σC1 σM1 H1 locs1 ls hs1 I1 hl))
      · refine lv_tableIn (x := nI 21) (off := 855) (tgt := 895) hx hb dL_40 (by decide) (by decide) (by decide) (by decide) ?_
        exact hwd (law_choices (hnb t) (hops i t h6).2.2.2.2.2.2.2.2.2.2.2.2.2.2.2.2.2.2.2.1 hx hb hml hown hts hX hbl hL3 F tx tm h6 hk1 hn1 hs I hl (fun σC1 σM1 H1 locs1 hs1 I1 => tl t σC1 σM1 H1 locs1 ls hs1 I1 hl))
      · refine lv_tableIn (x := nI 22) (off := 880) (tgt := 920) hx hb dL_40 (by decide) (by decide) (by decide) (by decide) ?_
        exact hwd (law_play (hnb t) (hops i t h6).2.2.2.2.2.2.2.2.2.2.2.2.2.2.2.2.2.2.2.2.1 hx hb hml hown hts hX hbl hL3 F tx tm h6 hk1 hn1 hs I hl (fun σC1 σM1 H1 locs1 hs1 I1 => tl t σC1 σM1 H1 locs1 ls hs1 I1 hl))
      · refine lv_tableIn (x := nI 23) (off := 905) (tgt := 945) hx hb dL_40 (by decide) (by decide) (by decide) (by decide) ?_
        exact hwd (law_playAt (hnb t) (hops i t h6).2.2.2.2.2.2.2.2.2.2.2.2.2.2.2.2.2.2.2.2.2.1 hx hb hml hown hts hX hbl hL3 F tx tm h6 hk1 hn1 hs I hl (fun σC1 σM1 H1 locs1 hs1 I1 => tl t σC1 σM1 H1 locs1 ls hs1 I1 hl))
      · refine lv_tableIn (x := nI 24) (off := 930) (tgt := 970) hx hb dL_40 (by decide) (by decide) (by decide) (by decide) ?_
        exact hwd (law_steal (hnb t) (hops i t h6).2.2.2.2.2.2.2.2.2.2.2.2.2.2.2.2.2.2.2.2.2.2.1 hx hb hml hown hts hX hbl hL3 F tx tm h6 hk1 hn1 hs I hl (fun σC1 σM1 H1 locs1 hs1 I1 => tl t σC1 σM1 H1 locs1 ls hs1 I1 hl))
      · refine lv_tableIn (x := nI 25) (off := 967) (tgt := 1007) hx hb dL_40 (by decide) (by decide) (by decide) (by decide) ?_
        exact hwd (law_parts (hnb t) (hops i t h6).2.2.2.2.2.2.2.2.2.2.2.2.2.2.2.2.2.2.2.2.2.2.2.1 hx hb hml hown hts hX hbl hL3 F tx tm h6 hk1 hn1 hs I hl (fun σC1 σM1 H1 locs1 hs1 I1 => tl t σC1 σM1 H1 locs1 ls hs1 I1 hl))
      · refine lv_tableIn (x := nI 26) (off := 992) (tgt := 1032) hx hb dL_40 (by decide) (by decide) (by decide) (by decide) ?_
        exact hwd (law_parted (hnb t) (hops i t h6).2.2.2.2.2.2.2.2.2.2.2.2.2.2.2.2.2.2.2.2.2.2.2.2.1 hx hb hml hown hts hX hbl hL3 F tx tm h6 hk1 hn1 hs I hl (fun σC1 σM1 H1 locs1 hs1 I1 => tl t σC1 σM1 H1 locs1 ls hs1 I1 hl))
      · refine lv_tableIn (x := nI 27) (off := 1017) (tgt := 1057) hx hb dL_40 (by decide) (by decide) (by decide) (by decide) ?_
        exact hwd (law_good (hnb t) (hops i t h6).2.2.2.2.2.2.2.2.2.2.2.2.2.2.2.2.2.2.2.2.2.2.2.2.2.1 hx hb hml hown hts hX hbl hL3 F tx tm h6 hk1 hn1 hs I hl (fun σC1 σM1 H1 locs1 hs1 I1 => tl t σC1 σM1 H1 locs1 ls hs1 I1 hl))
      · refine lv_tableIn (x := nI 28) (off := 1054) (tgt := 1094) hx hb dL_40 (by decide) (by decide) (by decide) (by decide) ?_
        exact hwd (law_law (hnb t) (hops i t h6).2.2.2.2.2.2.2.2.2.2.2.2.2.2.2.2.2.2.2.2.2.2.2.2.2.2.1 hx hb hml hown hts hX hbl hL3 F tx tm h6 hk1 hn1 hs I hl (fun σC1 σM1 H1 locs1 hs1 I1 => tl t σC1 σM1 H1 locs1 ls hs1 I1 hl))
      · refine lv_tableIn (x := nI 29) (off := 1091) (tgt := 1131) hx hb dL_40 (by decide) (by decide) (by decide) (by decide) ?_
        exact hwd (law_rings (hnb t) (hops i t h6).2.2.2.2.2.2.2.2.2.2.2.2.2.2.2.2.2.2.2.2.2.2.2.2.2.2.2.1 hx hb hml hown hts hX hbl hL3 F tx tm h6 hk1 hn1 hs I hl (fun σC1 σM1 H1 locs1 hs1 I1 => tl t σC1 σM1 H1 locs1 ls hs1 I1 hl))
      · refine lv_tableIn (x := nI 30) (off := 1116) (tgt := 1156) hx hb dL_40 (by decide) (by decide) (by decide) (by decide) ?_
        exact hwd (law_together (hnb t) (hops i t h6).2.2.2.2.2.2.2.2.2.2.2.2.2.2.2.2.2.2.2.2.2.2.2.2.2.2.2.2.1 hx hb hml hown hts hX hbl hL3 F tx tm h6 hk1 hn1 hs I hl (fun σC1 σM1 H1 locs1 hs1 I1 => tl t σC1 σM1 H1 locs1 ls hs1 I1 hl))
      · refine lv_tableIn (x := nI 31) (off := 1153) (tgt := 1193) hx hb dL_40 (by decide) (by decide) (by decide) (by decide) ?_
        exact hc31 i _ _ t σC σM H locs ls _ h6 hk1 hn1 hs I hl tl
      · refine lv_tableIn (x := nI 32) (off := 1178) (tgt := 1218) hx hb dL_40 (by decide) (by decide) (by decide) (by decide) ?_
        exact hc32 i _ _ t σC σM H locs ls _ h6 hk1 hn1 hs I hl tl
      · refine lv_tableIn (x := nI 33) (off := 1203) (tgt := 1243) hx hb dL_40 (by decide) (by decide) (by decide) (by decide) ?_
        exact hwd (law_drawn (hnb t) (hops i t h6).2.2.2.2.2.2.2.2.2.2.2.2.2.2.2.2.2.2.2.2.2.2.2.2.2.2.2.2.2.1 hx hb hml hown hts hX hbl hL3 F tx tm h6 hk1 hn1 hs I hl (fun σC1 σM1 H1 locs1 hs1 I1 => tl t σC1 σM1 H1 locs1 ls hs1 I1 hl))
      · refine lv_tableIn (x := nI 34) (off := 1240) (tgt := 1280) hx hb dL_40 (by decide) (by decide) (by decide) (by decide) ?_
        exact hwd (law_odds (hnb t) (hops i t h6).2.2.2.2.2.2.2.2.2.2.2.2.2.2.2.2.2.2.2.2.2.2.2.2.2.2.2.2.2.2.1 hx hb hml hown hts hX hbl hL3 F tx tm h6 hk1 hn1 hs I hl (fun σC1 σM1 H1 locs1 hs1 I1 => tl t σC1 σM1 H1 locs1 ls hs1 I1 hl))
      · refine lv_tableIn (x := nI 35) (off := 1289) (tgt := 1329) hx hb dL_40 (by decide) (by decide) (by decide) (by decide) ?_
        exact hwd (law_roll (hnb t) (hops i t h6).2.2.2.2.2.2.2.2.2.2.2.2.2.2.2.2.2.2.2.2.2.2.2.2.2.2.2.2.2.2.2.1 hx hb hml hown hts hX hbl hL3 F tx tm h6 hk1 hn1 hs I hl (fun σC1 σM1 H1 locs1 hs1 I1 => tl t σC1 σM1 H1 locs1 ls hs1 I1 hl))
      · refine lv_tableIn (x := nI 36) (off := 1314) (tgt := 1354) hx hb dL_40 (by decide) (by decide) (by decide) (by decide) ?_
        exact hwd (law_rolled (hnb t) (hops i t h6).2.2.2.2.2.2.2.2.2.2.2.2.2.2.2.2.2.2.2.2.2.2.2.2.2.2.2.2.2.2.2.2.1 hx hb hml hown hts hX hbl hL3 F tx tm h6 hk1 hn1 hs I hl (fun σC1 σM1 H1 locs1 hs1 I1 => tl t σC1 σM1 H1 locs1 ls hs1 I1 hl))
      · refine lv_tableIn (x := nI 37) (off := 1339) (tgt := 1379) hx hb dL_40 (by decide) (by decide) (by decide) (by decide) ?_
        exact hwd (law_sentence (hnb t) (hops i t h6).2.2.2.2.2.2.2.2.2.2.2.2.2.2.2.2.2.2.2.2.2.2.2.2.2.2.2.2.2.2.2.2.2.1 hx hb hml hown hts hX hbl hL3 F tx tm h6 hk1 hn1 hs I hl (fun σC1 σM1 H1 locs1 hs1 I1 => tl t σC1 σM1 H1 locs1 ls hs1 I1 hl))
      · refine lv_tableIn (x := nI 38) (off := 1352) (tgt := 1392) hx hb dL_40 (by decide) (by decide) (by decide) (by decide) ?_
        exact hwd (law_said (hnb t) (hops i t h6).2.2.2.2.2.2.2.2.2.2.2.2.2.2.2.2.2.2.2.2.2.2.2.2.2.2.2.2.2.2.2.2.2.2.1 hx hb hml hown hts hX hbl hL3 F tx tm h6 hk1 hn1 hs I hl (fun σC1 σM1 H1 locs1 hs1 I1 => tl t σC1 σM1 H1 locs1 ls hs1 I1 hl))
      · refine lv_tableIn (x := nI 39) (off := 1377) (tgt := 1417) hx hb dL_40 (by decide) (by decide) (by decide) (by decide) ?_
        exact hwd (law_image (hnb t) (hops i t h6).2.2.2.2.2.2.2.2.2.2.2.2.2.2.2.2.2.2.2.2.2.2.2.2.2.2.2.2.2.2.2.2.2.2.2.1 hx hb hml hown hts hX hbl hL3 F tx tm h6 hk1 hn1 hs I hl (fun σC1 σM1 H1 locs1 hs1 I1 => tl t σC1 σM1 H1 locs1 ls hs1 I1 hl))
      · refine lv_tableIn (x := nI 40) (off := 1402) (tgt := 1442) hx hb dL_40 (by decide) (by decide) (by decide) (by decide) ?_
        exact hwd (law_restore (hnb t) (hops i t h6).2.2.2.2.2.2.2.2.2.2.2.2.2.2.2.2.2.2.2.2.2.2.2.2.2.2.2.2.2.2.2.2.2.2.2.2.1 hx hb hml hown hts hX hbl hL3 F tx tm h6 hk1 hn1 hs I hl (fun σC1 σM1 H1 locs1 hs1 I1 => tl t σC1 σM1 H1 locs1 ls hs1 I1 hl))
      · refine lv_tableIn (x := nI 41) (off := 1427) (tgt := 1467) hx hb dL_40 (by decide) (by decide) (by decide) (by decide) ?_
        exact hwd (law_count (hnb t) (hops i t h6).2.2.2.2.2.2.2.2.2.2.2.2.2.2.2.2.2.2.2.2.2.2.2.2.2.2.2.2.2.2.2.2.2.2.2.2.2 hx hb hml hown hts hX hbl hL3 F tx tm h6 hk1 hn1 hs I hl (fun σC1 σM1 H1 locs1 hs1 I1 => tl t σC1 σM1 H1 locs1 ls hs1 I1 hl))
      · have hjI : (nI j).toInt = (j : Int) := nI_toInt (by omega)
        refine lv_tableOut (tgt := 1492) hx hb dL_40 (by rw [hjI]; omega) (by decide) ?_
        exact hwd (tl t σC σM H locs ls (hdef i t _ _ h6 hs) I hl)
