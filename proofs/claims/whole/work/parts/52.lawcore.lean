/-! the law's rules -/
def LSt (GC GM : gg) (ΓC : ly) (σC : mm) (ΓM : ly) (σM : mm) (cJ : ClassId) (qo : Nat) (NB : Heap → Prop) (s : State) (H : Heap) (locs : List Loc) : Prop := Rep GC ΓC σC H ∧ Rep GM ΓM σM H ∧ (∃ ov : Int64, H[qo]? = some (vp_cell cJ (1, .inr (.inl (fun _ => ov))))) ∧ va_S (fun q => s.heap.size ≤ q) s.heap H locs ∧ NB H
/-- a thing beside the two regions stays -/
def NBs (GC GM : gg) (qo : Nat) (NB : Heap → Prop) : Prop := ∀ (H H1 : Heap), NB H → H.size ≤ H1.size → (∀ q, q < H.size → ¬ g_own GC q → ¬ g_own GM q → q ≠ qo → H1[q]? = H[q]?) → NB H1
def LF (GC GM : gg) (cJ : ClassId) (qo : Nat) (s : State) : Prop := KK GC s s.heap ∧ KK GM s s.heap ∧ GC.1.2.2 = false ∧ GM.1.2.2 = false ∧ s.heap.size ≤ GC.1.1 ∧ s.heap.size ≤ GM.1.1 ∧ GC.1.2.1 ≤ GM.1.1 ∧ GM.1.2.1 ≤ qo ∧ GC.1.2.1 ≤ qo ∧ cJ = GC.2.2.2.1 4
theorem Rep.off {G : gg} {Γ : ly} {σ : mm} {H H1 : Heap} (Rp : Rep G Γ σ H) (hf : G.1.2.2 = false) (hA : ∀ k, G.2.1 (64 + k) = G.1.1 + k) (h : ∀ q, q < H.size → g_own G q → H1[q]? = H[q]?) : Rep G Γ σ H1 := by
  refine ⟨⟨fun q => absurd (hf.symm.trans q) (by decide), Rp.1.2⟩, Rp.2.1, Rp.2.2.1, fun k e hk hk2 he => ?_⟩
  have h1 := Rp.2.2.2 k e hk hk2 he
  exact h1.kept (h _ h1.lt (Rp.own hA hk hk2 (fun q => by
    unfold h_cell at he
    rw [q] at he
    cases he)))
section LW
variable {p : Program} {l : Launch} {e : Env} {s : State} {m : MethodId} {b : Nat} {below : List Frame} {meth : Method} {c : Code} {H : Heap} {locs : List Loc} {k n pc : Nat} {Z : State → Prop} {ls : Array Slot} {st : List Value}
theorem L_call {G : gg} {Γ : ly} {σ σ2 : mm} {index ci a : Nat} {y2 : MethodName} {cc2 : ByteArray} {nL2 np : Nat} {ret2 : Option FieldType} (As : List Value) {As' : List Value} {r : Int32} {r9 : vw_C} (hx : p.tables.exec = Jvm.exec) (hb : c.code = code) (hml : c.maxLocals = 7) (hown : s.vm.findClass RL = some m.cls) (hts : ∀ w ∈ lw_tbl, w.before #[Value.ref b] s = true)
    (hd : decode code pc = .ok (.invokevirtual index, 3)) (C : CVd RL index y2 cc2 nL2 ret2 np) (hc : vwCl[ci]? = some r9) (hcn : r9.1 = y2.cls) (ht : tyOK Γ (0, ci) a) (hn : As.length = np) (has : As.reverse ++ .ref (G.2.1 a) :: st = As') (hst : (st.map fun v => v.category).sum ≤ 8) (Rp : Rep G Γ σ H) (hKK : KK G s s.heap) (hbase : s.heap.size ≤ G.1.1) (hS : va_S (fun q => s.heap.size ≤ q) s.heap H locs) (hl : ls.size = 7) (hk : k ≤ 601024) (hn2 : n ≤ 7293034)
    (hM : CT l G y2 cc2 nL2 ret2 2047 0 0 (.ref (G.2.1 a) :: As) Γ σ (PP (some (.int r)) Γ σ2))
    (kk : ∀ (H1 : Heap) (locs1 : List Loc), Rep G Γ σ2 H1 → H.size ≤ H1.size → (∀ q, q < H.size → ¬ g_own G q → H1[q]? = H[q]?) → va_S (fun q => s.heap.size ≤ q) s.heap H1 locs1 → W p l e room_1 s m #[Value.ref b] below meth c H1 locs1 k n Z (F0 m (pc + 3) ls (.int r :: st))) : W p l e room_1 s m #[Value.ref b] below meth c H locs k n Z (F0 m pc ls As') := by
  obtain ⟨c1, c2, c3, c4, c5, c6, c7⟩ := C
  subst has
  have hgi : GoodIn lw_tbl (wsV RL index y2.cls y2 (Cond.code y2 cc2 nL2 ret2 :: gw)) := by
    have hg : ∀ w ∈ gw, w ∈ lw_tbl ∧ ((w.onTables && w.keeps) = true ∨ ∃ ty, w = .arrayClass ty) := fun w hw => ⟨(List.mem_filter.mp hw).1, good_of_word (gw_good w hw)⟩
    intro w hw
    simp only [wsV, List.cons_append, List.nil_append, List.mem_cons] at hw
    rcases hw with rfl | rfl | rfl | rfl | rfl | h
    · exact hg _ c1
    · exact hg _ c2
    · exact hg _ c3
    · exact hg _ c4
    · exact hg _ c5
    · exact hg _ h
  have hkeep : ∀ q, q < s.heap.size → ¬ g_own G q → H[q]? = s.heap[q]? := fun q hq _ => hS.2.1 q hq (by omega)
  have hr := va_runV (p := p) (l := l) (e := e) (R := room_1) (below := below) (meth := meth) (H := H) (locs := locs) (cells := k) (slots := n) (Ts := lw_tbl) (C := y2.cls) (As := As) (rest := st) (g := F0 m pc ls (As.reverse ++ .ref (G.2.1 a) :: st)) ⟨hx, hb, hml, hown, hts⟩ hM (cwV np hts hgi rfl rfl rfl ⟨rfl, c7⟩ ⟨by show 2047 + 1 ≤ 2048; decide, by show 8 + (nL2 + 11) + (41 * 2047 + 32) ≤ 84000; omega⟩) ⟨pc_blind, by
      have := va_recv hKK.1 (one_P (Rp.obj ht)) (q0 := 0) hc rfl
      rw [hcn] at this
      exact this, fun U hU hW => ⟨rfl, by rw [hU]; exact Rp, by rw [hU]; exact KK.warm hW (hKK.kept hkeep)⟩⟩ rfl hn hl rfl (lv_room hst) hd ⟨hk, hn2⟩
  intro T hT X
  obtain ⟨v, st₀, t, T', L2, h0, X', hL, e1, e2, ⟨⟨v2, Γ', σ', hv, hp, hb'⟩, hz, hk'⟩, st'⟩ := hr T hT X
  cases hv
  obtain ⟨g1, g2, g3⟩ := hp
  subst g1
  subst g2
  subst g3
  rw [h0] at hz hk'
  obtain ⟨t2, a1, b1⟩ := kk T'.heap (locs ++ L2) (by rw [e1]; exact hb') (by rw [e1]; exact hz) (fun q h1 h2 => by rw [e1]; exact hk' q h1 h2)
    ⟨Nat.le_trans hS.1 (by rw [e1]; exact hz), fun q h1 h2 => by
      rw [e1, hk' q (Nat.lt_of_lt_of_le h1 hS.1) (fun z => h2 (Nat.le_trans hbase z.1))]
      exact hS.2.1 q h1 h2, fun q hq => by
      rcases List.mem_append.mp hq with h | h
      · exact hS.2.2 q h
      · exact Nat.le_trans hbase (hL q h).1⟩ T' rfl X'
  exact ⟨t2, st' t2 a1, b1⟩
theorem L_arg {L : Nat} {xs : Nat → Int32} {i : Nat} {z : Int} {lv : List (Nat × Value)} (j : Nat) (q0 q4 : Nat) (hx : p.tables.exec = Jvm.exec) (hb : c.code = code) (hX : va_X b L xs s s.heap) (hbl : b < s.heap.size) (hL3 : L ≤ 3072) (hS : va_S (fun q => s.heap.size ≤ q) s.heap H locs) (hl : lv_has ls 7 lv) (h0 : lv[q0]? = some (0, .ref b)) (h4 : lv[q4]? = some (4, .int (nI i))) (hj : i + j < L) (hz : Int32.ofInt z = nI j)
    (d0 : decode code pc = .ok (.aload_n 0, 1)) (d1 : decode code (pc + 1) = .ok (.iload 4, 2)) (d3 : decode code (pc + 3) = .ok (.iconst z, 1)) (d4 : decode code (pc + 4) = .ok (.iadd, 1)) (d5 : decode code (pc + 5) = .ok (.iaload, 1))
    (kk : W p l e room_1 s m #[Value.ref b] below meth c H locs k n Z (F0 m (pc + 6) ls (.int (xs (i + j)) :: st))) : W p l e room_1 s m #[Value.ref b] below meth c H locs k n Z (F0 m pc ls st) := by
  refine lv_aload_n hx hb d0 rfl (lv_at hl q0 h0) ?_
  refine lv_iload hx hb d1 (lv_at hl q4 h4) ?_
  refine lv_iconst hx hb d3 hz ?_
  refine lv_iadd hx hb d4 ?_
  rw [nI_add]
  have hin : vp_in (nI (i + j)) L := vp_in_nI hj (by omega)
  refine va_sld hx hb hX hbl (by omega) hS hin d5 ?_
  rw [nI_clamp (by omega)]
  exact kk
end LW
