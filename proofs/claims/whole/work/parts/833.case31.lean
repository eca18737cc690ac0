/-! the law's cases 31 and 32: banns, byteAt -/
def OwB (GC : gg) (A N0 : Nat) : Nat → Prop := fun q => q = GC.2.1 209 ∨ q = A ∨ N0 ≤ q
abbrev EL (GC : gg) (z : zz) (N9 N0 A : Nat) : ee := (setO GC (cutO GC), z, N9, N0, OwB GC A N0)
/-- where the bytes may lie -/
def Aat (GC GM : gg) (qo A : Nat) : Prop := A = GC.2.1 210 ∨ (GC.1.2.1 ≤ A ∧ GM.1.2.1 ≤ A ∧ A ≠ qo)
theorem eb_of {GC GM : gg} {cJ : ClassId} {qo : Nat} {s : State} {H : Heap} {locs : List Loc} {z : zz} {A : Nat} (F : LF (setO GC (cutO GC)) GM cJ qo s) (h271 : GC.1.1 + 207 ≤ GC.1.2.1) (hS : va_S (fun q => s.heap.size ≤ q) s.heap H locs) (hq : qo < H.size) (hA : Aat GC GM qo A) : EB (EL GC z s.heap.size H.size A) := by
  obtain ⟨k1, k2, f1, f2, b1, b2, b3, b4, b5, -⟩ := F
  have e9 : GC.2.1 209 = GC.1.1 + 145 := k1.2.1 145
  have e10 : GC.2.1 210 = GC.1.1 + 146 := k1.2.1 146
  have b1' : s.heap.size ≤ GC.1.1 := b1
  have b5' : GC.1.2.1 ≤ qo := b5
  have hs1 := hS.1
  refine ⟨⟨fun q w => ?_, fun q w => Or.inr (Or.inr w)⟩, b1, f1, k1.2.1, fun q w w2 => ?_⟩
  · show s.heap.size ≤ q
    have w9 : q = GC.2.1 209 ∨ q = A ∨ H.size ≤ q := w
    unfold Aat at hA
    rcases w9 with w | w | w
    · omega
    · rcases hA with r | ⟨r, -⟩ <;> omega
    · omega
  · have w1 : GC.1.1 ≤ q := w.1
    have w3 : q < GC.1.2.1 := w.2.1
    have w4 : q ≠ GC.2.1 209 := w.2.2.1
    have w5 : q ≠ GC.2.1 210 := w.2.2.2
    have w9 : q = GC.2.1 209 ∨ q = A ∨ H.size ≤ q := w2
    unfold Aat at hA
    rcases w9 with w | w | w
    · exact w4 w
    · rcases hA with r | ⟨r, -⟩ <;> omega
    · omega
def Tt (t : Nat × (Int → Int)) : List Int := (List.range t.1).map (fun j : Nat => t.2 (j : Int))
theorem Tt_len (t : Nat × (Int → Int)) : (Tt t).length = t.1 := by
  unfold Tt
  rw [List.length_map, List.length_range]
theorem Tt_at {t : Nat × (Int → Int)} {j : Nat} (h : j < t.1) : (Tt t).getD j 0 = t.2 j := by
  unfold Tt
  rw [List.getD_eq_getElem?_getD, List.getElem?_map, List.getElem?_range h]
  rfl
theorem vaD2 {A : Nat → Prop} {x y : Nat × va_E} (hne : x.1 ≠ y.1) (hx : A x.1) (hy : A y.1) : va_D A [x, y] := by
  refine ⟨fun i j p q hi hj e => ?_, fun i q hi => ?_⟩
  · rcases i with _ | _ | i <;> rcases j with _ | _ | j <;> simp at hi hj
    · rfl
    · subst hi
      subst hj
      exact absurd e hne
    · subst hi
      subst hj
      exact absurd e.symm hne
    · rfl
  · rcases i with _ | _ | i <;> simp at hi
    · subst hi
      exact hx
    · subst hi
      exact hy
theorem vs4 {vs : List Value} {a b c d : Value} (h : vs.length = 4) (h0 : vs[0]? = some a) (h1 : vs[1]? = some b) (h2 : vs[2]? = some c) (h3 : vs[3]? = some d) : vs = [a, b, c, d] := by
  match vs, h with
  | [x0, x1, x2, x3], _ =>
    simp at h0 h1 h2 h3
    rw [h0, h1, h2, h3]
theorem sb_of_nb {GC GM : gg} {qo : Nat} {t : Nat × (Int → Int)} {H : Heap} (hA : ∀ k, GC.2.1 (64 + k) = GC.1.1 + k) (h271 : GC.1.1 + 207 ≤ GC.1.2.1) (h : NBx GC GM qo t H) : ∃ A cap, c16 cap ∧ t.1 ≤ cap ∧ Aat GC GM qo A ∧ (∀ j : Nat, j < t.1 → 0 ≤ t.2 j ∧ t.2 j < 256) ∧ ∀ (z : zz) (N9 N0 : Nat), SBt (EL GC z N9 N0 A) cap (Tt t) H := by
  obtain ⟨A, cap, f, vs, h1, h2, h3, h4, ⟨ml, h5⟩, h6, h7, h8, h9, h10, h11, h12⟩ := h
  have hvs := vs4 h2 h3 h4 h5 h6
  subst hvs
  have e9 : GC.2.1 209 = GC.1.1 + 145 := hA 145
  have e10 : GC.2.1 210 = GC.1.1 + 146 := hA 146
  refine ⟨A, cap, h9, h8, h12, fun j hj => (h11 j hj).1, fun z N9 N0 => ⟨A, (f, ml), ⟨h10, fun j hj => ?_⟩, ?_, ?_⟩⟩
  · rw [Tt_len] at hj
    rw [Tt_at hj]
    exact (h11 j hj).2
  · rw [Tt_len]
    exact va_P.app (w1 := [(GC.2.1 209, .inr (0, [.ref A, .int 0, .int ml, .int (nI t.1)]))]) (w2 := [(A, .inl (GC.2.2.2.1 2, cap, .inl f))]) (one_P h1) (one_P h7)
  · exact vaD2 (fun e => by
      have e' : GC.2.1 209 = A := e
      rcases h12 with r | ⟨r, -⟩ <;> omega) (Or.inl rfl) (Or.inr (Or.inl rfl))
theorem nb_of_sb {GC GM : gg} {qo : Nat} {t : Nat × (Int → Int)} {H1 : Heap} {z : zz} {N9 N0 A cap : Nat} {T : List Int} (hm : GC.1.2.1 ≤ qo ∧ GM.1.2.1 ≤ qo ∧ qo < N0) (hA : Aat GC GM qo A) (hc : c16 cap) (hT : T.length ≤ cap) (h1 : t.1 = T.length) (h2 : ∀ j : Nat, j < T.length → t.2 j = T.getD j 0) (hb : ∀ j, j < T.length → 0 ≤ T.getD j 0 ∧ T.getD j 0 < 256) (h : SBt (EL GC z N9 N0 A) cap T H1) : NBx GC GM qo t H1 := by
  obtain ⟨A', p, ⟨hfit, htx⟩, hP, hD⟩ := h
  have hne : GC.2.1 209 ≠ A' := fun e => absurd (hD.1 0 1 _ _ rfl rfl e) (by decide)
  have hO : A' = GC.2.1 209 ∨ A' = A ∨ N0 ≤ A' := hD.2 1 _ rfl
  refine ⟨A', cap, p.1, [.ref A', .int 0, .int p.2, .int (nI T.length)], hP 0 _ rfl, rfl, rfl, rfl, ⟨p.2, rfl⟩, by rw [h1]; rfl, hP 1 _ rfl, by omega, hc, hfit, fun j hj => ?_, ?_⟩
  · rw [h1] at hj
    rw [h2 j hj]
    exact ⟨hb j hj, htx j hj⟩
  · rcases hO with w | w | w
    · exact absurd w.symm hne
    · rw [w]
      exact hA
    · exact Or.inr ⟨by omega, by omega, by omega⟩
theorem ty_get {G : gg} {Γ : ly} {σ : mm} {H : Heap} {ci a j b : Nat} (Rp : Rep G Γ σ H) (ht : tyOK Γ (0, ci) a) (hj : j < c_n ci) (htj : c_t ci j = 2) (hb : σ.2.2 a j = some b) : tyOK Γ (c_r ci j) b := by
  obtain ⟨h1, h2, h3⟩ := ht
  have h := (Rp.2.2.1 a h1 h2).1 (by rw [h3]) j (by rw [h3]; exact hj) (by rw [h3]; exact htj) b hb
  rw [h3] at h
  exact h
section LJ
variable {p : Program} {l : Launch} {e : Env} {s : State} {m : MethodId} {b : Nat} {below : List Frame} {meth : Method} {c : Code} {H : Heap} {locs : List Loc} {k n pc : Nat} {Z : State → Prop} {ls : Array Slot} {st : List Value}
theorem L_callJ {E : ee} {Γ : ly} {σ : mm} {index : Nat} {y2 : MethodName} {cc2 : ByteArray} {nL2 np mc2 ms2 : Nat} {ret2 : Option FieldType} (As : List Value) {As' : List Value} {r : Int32} {I I3 : Heap → Prop} (hx : p.tables.exec = Jvm.exec) (hb : c.code = code) (hml : c.maxLocals = 7) (hown : s.vm.findClass RL = some m.cls) (hts : ∀ w ∈ lw_tbl, w.before #[Value.ref b] s = true)
    (hd : decode code pc = .ok (.invokevirtual index, 3)) (C : CVd RL index y2 cc2 nL2 ret2 np) (hy2 : y2.cls = RX12) (ht : tyOK Γ (0, 11) 64) (hn : As.length = np) (has : As.reverse ++ .ref (E.1.2.1 64) :: st = As') (hst : (st.map fun v => v.category).sum ≤ 8) (hI : I H) (hR : Rep E.1 Γ σ H) (hB : EB E) (hK9 : K9 E s s.heap) (hN9 : E.2.2.1 = s.heap.size) (hN0 : E.2.2.2.1 = H.size) (hS : va_S (fun q => s.heap.size ≤ q) s.heap H locs) (hl : ls.size = 7) (hk : k + mc2 ≤ 601024) (hn2 : n + ms2 ≤ 7293034)
    (hM : CJ l (ET E) y2 cc2 nL2 ret2 2047 mc2 ms2 (.ref (E.1.2.1 64) :: As) I (fun v H => v = some (.int r) ∧ I3 H))
    (kk : ∀ (H1 : Heap) (locs1 : List Loc), I3 H1 → H.size ≤ H1.size → (∀ q, q < H.size → ¬ OT E q → H1[q]? = H[q]?) → va_S (fun q => s.heap.size ≤ q) s.heap H1 locs1 → W p l e room_1 s m #[Value.ref b] below meth c H1 locs1 (k + mc2) (n + ms2) Z (F0 m (pc + 3) ls (.int r :: st))) : W p l e room_1 s m #[Value.ref b] below meth c H locs k n Z (F0 m pc ls As') := by
  obtain ⟨c1, c2, c3, c4, c5, c6, c7⟩ := C
  subst has
  have hgi : GoodIn lw_tbl (wsV RL index y2.cls y2 (Cond.code y2 cc2 nL2 ret2 :: gw)) := by
    have hg : ∀ w ∈ gw, w ∈ lw_tbl ∧ ((w.onTables && w.keeps) = true ∨ ∃ ty, w = .arrayClass ty) := fun w hw => ⟨(List.mem_filter.mp hw).1, good_of_word (gw_good w hw)⟩
    intro w hw
    simp only [wsV, List.cons_append, List.nil_append, List.mem_cons] at hw
    rcases hw with rfl | rfl | rfl | rfl | rfl | h
    · exact hg _ c1
    · exact hg _ c2
    · exact hg _ c3
    · exact hg _ c4
    · exact hg _ c5
    · exact hg _ h
  have hkeep : ∀ q, q < s.heap.size → ¬ E.2.2.1 ≤ q → H[q]? = s.heap[q]? := fun q hq _ => hS.2.1 q hq (by omega)
  have hot : ∀ q, OT E q → s.heap.size ≤ q := fun q w => by
    rw [← hN9]
    exact hB.ok.1 q w
  have hr := va_runV (p := p) (l := l) (e := e) (R := room_1) (below := below) (meth := meth) (H := H) (locs := locs) (cells := k) (slots := n) (Ts := lw_tbl) (C := y2.cls) (As := As) (rest := st) (g := F0 m pc ls (As.reverse ++ .ref (E.1.2.1 64) :: st)) ⟨hx, hb, hml, hown, hts⟩ hM (cwV np hts hgi rfl rfl rfl ⟨rfl, c7⟩ ⟨by show 2047 + 1 ≤ 2048; decide, by show 8 + (nL2 + 11) + (41 * 2047 + 32) ≤ 84000; omega⟩) ⟨cj_blind, by
      have := va_recv hK9.1 (one_P (hR.obj ht)) (q0 := 0) (ci := 11) rfl rfl
      rw [hy2]
      exact this, fun U hU hW => ⟨rfl, by rw [hU]; exact hI, KE.set ⟨by rw [hU]; exact K9.warm hW (hK9.kept hkeep), by rw [hU, hN0]; exact Nat.le_refl _⟩⟩⟩ rfl hn hl rfl (lv_room hst) hd ⟨hk, hn2⟩
  intro T hT X
  obtain ⟨v, st₀, t, T', L2, h0, X', hL, e1, e2, ⟨⟨v2, hv, hp, hb'⟩, hz, hk'⟩, st'⟩ := hr T hT X
  cases hv
  subst hp
  rw [h0] at hz hk'
  obtain ⟨t2, a1, b1⟩ := kk T'.heap (locs ++ L2) (by rw [e1]; exact hb') (by rw [e1]; exact hz) (fun q h1 h2 => by rw [e1]; exact hk' q h1 h2)
    ⟨Nat.le_trans hS.1 (by rw [e1]; exact hz), fun q h1 h2 => by
      rw [e1, hk' q (Nat.lt_of_lt_of_le h1 hS.1) (fun z => h2 (hot q z))]
      exact hS.2.1 q h1 h2, fun q hq => by
      rcases List.mem_append.mp hq with h | h
      · exact hS.2.2 q h
      · exact hot _ (hL q h)⟩ T' rfl X'
  exact ⟨t2, st' t2 a1, b1⟩
end LJ
/-- what lies apart from the class's region and the StringBuilder -/
theorem ot_apart {GC GM : gg} {cJ : ClassId} {qo : Nat} {s : State} {H : Heap} {z : zz} {A : Nat} (F : LF (setO GC (cutO GC)) GM cJ qo s) (h271 : GC.1.1 + 207 ≤ GC.1.2.1) (hq : qo < H.size) (hA : Aat GC GM qo A) : (∀ q, g_own GM q → ¬ OT (EL GC z s.heap.size H.size A) q) ∧ ¬ OT (EL GC z s.heap.size H.size A) qo := by
  obtain ⟨k1, k2, f1, f2, b1, b2, b3, b4, b5, -⟩ := F
  have e9 : GC.2.1 209 = GC.1.1 + 145 := k1.2.1 145
  have e10 : GC.2.1 210 = GC.1.1 + 146 := k1.2.1 146
  have b3' : GC.1.2.1 ≤ GM.1.1 := b3
  have b5' : GC.1.2.1 ≤ qo := b5
  unfold Aat at hA
  refine ⟨fun q w w2 => ?_, fun w2 => ?_⟩
  · have w1 := w.1
    have w3 := w.2.1
    rcases w2 with w9 | w9 | w9 | w9
    · have : q < GC.1.2.1 := w9.2.1
      omega
    · have w9 : q = GC.2.1 209 := w9
      omega
    · have w9 : q = A := w9
      rcases hA with r | ⟨r1, r2, r3⟩ <;> omega
    · have w9 : H.size ≤ q := w9
      omega
  · rcases w2 with w9 | w9 | w9 | w9
    · have : qo < GC.1.2.1 := w9.2.1
      omega
    · have w9 : qo = GC.2.1 209 := w9
      omega
    · have w9 : qo = A := w9
      rcases hA with r | ⟨r1, r2, r3⟩ <;> omega
    · have w9 : H.size ≤ qo := w9
      omega
theorem law_byteAt {p : Program} {l : Launch} {e : Env} {s : State} {m : MethodId} {b : Nat} {below : List Frame} {meth : Method} {c : Code} {L : Nat} {xs : Nat → Int32} (C0 : lw_At p s m meth c b L xs) (hL3 : L ≤ 3072) (GC GM : gg) (cJ : ClassId) (qo : Nat) (ΓC ΓM : ly) (F : LF (setO GC (cutO GC)) GM cJ qo s) (h271 : GC.1.1 + 207 ≤ GC.1.2.1) (hSC : SCok ΓC.2) (hSM : SMok ΓM.2) (tx : tyOK ΓC (0, 11) 64) (tm : tyOK ΓM (0, 12) 64) : CaseOK p l e s m b below meth c L xs (setO GC (cutO GC)) GM ΓC ΓM cJ qo (NBx GC GM qo) (fun _ t => SimX t) 1218 := by
  obtain ⟨hx, hb, hr, hml, hown, hts, hX, hbl, hlocks, hgv⟩ := id C0
  intro i k n t σC σM H locs ls Z h6 hk hn hs I9 hlv tl
  obtain ⟨R1, R2, ⟨ov, ho⟩, hS, hnB⟩ := I9
  obtain ⟨k1, k2, f1, f2, b1, b2, b3, b4, b5, hcJ⟩ := id F
  obtain ⟨z, hz⟩ := start_9 C0 k1
  have hqo : qo < H.size := (Array.getElem?_eq_some_iff.mp ho).1
  have hA9 : ∀ k, GC.2.1 (64 + k) = GC.1.1 + k := k1.2.1
  obtain ⟨A, cap, hc16, hcap, hA, hrg, hsb⟩ := sb_of_nb hA9 h271 hnB
  have hB : EB (EL GC z s.heap.size H.size A) := eb_of F h271 hS hqo hA
  obtain ⟨ap1, ap2⟩ := ot_apart (z := z) F h271 hqo hA
  obtain ⟨Q, w, rf, R, v, rm, q1, q2, hr1, hr', inv, tx9⟩ := id hs
  have h9 : σC.2.2 64 16 = some 209 := by
    rw [q1]
    exact rfC64_16 hr1
  obtain ⟨g, hg, hgr⟩ := exI (xs (i + 1))
  obtain ⟨σM', e2, hs'⟩ := ref_byteAt hSM hgr t σC σM hs
  rw [← hg] at e2
  have hc34 : cap ≤ 34 := by unfold c16 at hc16; omega
  have hbt : ∀ j, j < (Tt t).length → 0 ≤ (Tt t).getD j 0 ∧ (Tt t).getD j 0 < 256 := fun j hj => by
    rw [Tt_len] at hj
    rw [Tt_at hj]
    exact hrg j hj
  have hgi : (xs (i + 1)).toInt = g := by
    rw [hg]
    exact I_toInt hgr.1 hgr.2
  have hrr : (if 0 ≤ (xs (i + 1)).toInt ∧ (xs (i + 1)).toInt < (Tt t).length then nI ((Tt t).getD (xs (i + 1)).toInt.toNat 0).toNat else -1) = (if 0 ≤ g ∧ g < t.1 then I (t.2 g) else I (-1)) := by
    rw [hgi, Tt_len]
    by_cases h : 0 ≤ g ∧ g < t.1
    · rw [if_pos h, if_pos h, Tt_at (by omega)]
      have h1 := hrg g.toNat (by omega)
      rw [show ((g.toNat : Nat) : Int) = g by omega] at h1 ⊢
      rw [I_nn h1.1]
    · rw [if_neg h, if_neg h]
      rfl
  refine lv_aload_n hx hb dL_1218 rfl (lv_at hlv 1 rfl) ?_
  refine L_arg 1 0 4 hx hb hX hbl hL3 hS hlv rfl rfl (by omega) (by decide) dL_1219 dL_1220 dL_1222 dL_1223 dL_1224 ?_
  refine L_callJ (E := EL GC z s.heap.size H.size A) (Γ := ΓC) (σ := σC) (I := BI (EL GC z s.heap.size H.size A) ΓC σC cap (Tt t)) [.int (xs (i + 1))] hx hb hml hown hts dL_1225 cvL_158 rfl tx rfl rfl (Nat.le_of_ble_eq_true rfl) ⟨R1, hsb z _ _⟩ R1 hB (hz _ _) rfl rfl hS hlv.1 (by omega) (by omega) (k_byteAt (cap := cap) (T := Tt t) hB (by decide) tx h9 (by rw [Tt_len]; exact hcap) hc34 hbt) (fun H1 locs1 hI z1 o1 hS => ?_)
  rw [hrr]
  have R1 := hI.1
  have R2 := R2.off (H1 := H1) f2 k2.2.1 (fun q9 hq w9 => o1 q9 hq (ap1 q9 w9))
  have hnB : NBx GC GM qo t H1 := nb_of_sb ⟨b5, b4, hqo⟩ hA hc16 (by rw [Tt_len]; exact hcap) (Tt_len t).symm (fun j hj => (Tt_at (by rw [Tt_len] at hj; exact hj)).symm) hbt hI.2
  have ho : H1[qo]? = _ := (o1 qo hqo ap2).trans ho
  refine lv_aload_n hx hb dL_1228 rfl (lv_at hlv 2 rfl) ?_
  refine L_arg 1 0 4 hx hb hX hbl hL3 hS hlv rfl rfl (by omega) (by decide) dL_1229 dL_1230 dL_1232 dL_1233 dL_1234 ?_
  refine L_call (G := GM) (Γ := ΓM) (σ := σM) (σ2 := σM') (a := 64) (ci := 12) (r := _) [.int (xs (i + 1))] hx hb hml hown hts dL_1235 cvL_161 rfl rfl tm rfl rfl (Nat.le_of_ble_eq_true rfl) R2 k2 b2 hS hlv.1 (by omega) (by omega) (kX13_byteAt 2047 (by decide) 64 (xs (i + 1)) tm (_, σM') e2) (fun H2 locs2 R2 z2 o2 hS => ?_)
  have R1 := R1.off (H1 := H2) f1 k1.2.1 (fun q9 hq w9 => o2 q9 hq (fun w2 => by
    have w3 : q9 < GC.1.2.1 := w9.2.1
    have w4 := w2.1
    have b3' : GC.1.2.1 ≤ GM.1.1 := b3
    omega))
  have hnB := nb_stays F hA9 h271 H1 H2 hnB z2 (fun q9 h1 _ h2 _ => o2 q9 h1 h2)
  have ho : H2[qo]? = _ := (o2 qo (Array.getElem?_eq_some_iff.mp ho).1 (fun w2 => by have := w2.2.1; omega)).trans ho
  refine lv_icmp_eq (tgt := 1492) hx hb dL_1238 (by decide) (fun _ => ?_) (fun w => absurd rfl w)
  exact W.widen (by omega) (by omega) (tl t σC σM' H2 locs2 ls hs' ⟨R1, R2, ⟨ov, ho⟩, hS, hnB⟩ hlv)
