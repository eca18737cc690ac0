theorem nwL_8 : NWd RL 8 11 := ⟨RX12, TX12, 18, tyX12, rfl, rfl, inX12, tyX12_ok, by decide +kernel, gw1 173 (by decide +kernel) (by decide +kernel), gw1 174 (by decide +kernel) (by decide +kernel), gw1 142 (by decide +kernel) (by decide +kernel)⟩
theorem nwL_19 : NWd RL 19 12 := ⟨RX13, TX13, 43, tyX13, rfl, rfl, inX13, tyX13_ok, by decide +kernel, gw1 1757 (by decide +kernel) (by decide +kernel), gw1 1751 (by decide +kernel) (by decide +kernel), gw1 159 (by decide +kernel) (by decide +kernel)⟩
theorem ciL_18 : CId RL 18 yX12_init cX12_init 2 0 := ⟨gw1 175 (by decide +kernel) (by decide +kernel), gw1 176 (by decide +kernel) (by decide +kernel), gw1 142 (by decide +kernel) (by decide +kernel), gw1 177 (by decide +kernel) (by decide +kernel), by decide, rfl, by decide +kernel⟩
theorem ciL_21 : CId RL 21 yX13_init cX13_init 2 0 := ⟨gw1 1758 (by decide +kernel) (by decide +kernel), gw1 1759 (by decide +kernel) (by decide +kernel), gw1 159 (by decide +kernel) (by decide +kernel), gw1 1760 (by decide +kernel) (by decide +kernel), by decide, rfl, by decide +kernel⟩
def setO (G : gg) (O : Nat → Prop) : gg := (G.1, G.2.1, G.2.2.1, G.2.2.2.1, O)
def L0 : ly := (64, fun _ => (99, 0))
def S0 : mm := (fun _ _ => 0, fun _ _ => 0, fun _ _ => none)
section LB
variable {p : Program} {l : Launch} {e : Env} {s : State} {m : MethodId} {b : Nat} {below : List Frame} {meth : Method} {c : Code} {H : Heap} {locs : List Loc} {k n pc : Nat} {Z : State → Prop} {ls : Array Slot} {st : List Value}
theorem L_new {G : gg} {Γ : ly} {σ : mm} {index ci : Nat} (hx : p.tables.exec = Jvm.exec) (hb : c.code = code) (hown : s.vm.findClass RL = some m.cls) (hts : ∀ w ∈ lw_tbl, w.before #[Value.ref b] s = true) (hd : decode code pc = .ok (.new index, 3)) (D : NWd RL index ci) (hfr : G.1.2.2 = true) (hlim : G.1.1 + Γ.1 + 1 ≤ G.1.2.1 + 64) (hk : k + 1 ≤ 601024) (hs : n + c_n ci ≤ 7293034) (Rp : Rep G Γ σ H) (hKK : KK G s s.heap) (hS : va_S (fun q => s.heap.size ≤ q) s.heap H locs)
    (kk : ∀ (H1 : Heap), Rep G (grow Γ (0, ci)) (zc σ Γ.1) H1 → H1.size = H.size + 1 → (∀ q, q < H.size → H1[q]? = H[q]?) → va_S (fun q => s.heap.size ≤ q) s.heap H1 locs → W p l e room_1 s m #[Value.ref b] below meth c H1 locs (k + 1) (n + c_n ci) Z (F0 m (pc + 3) ls (.ref (G.2.1 Γ.1) :: st))) : W p l e room_1 s m #[Value.ref b] below meth c H locs k n Z (F0 m pc ls st) := by
  obtain ⟨C, T, N, ty, hc, hN, hin, hty, hdf, w1, w2, w3⟩ := D
  have hts : ∀ w ∈ gw, w.before #[Value.ref b] s = true := fun w h => hts w (List.mem_filter.mp h).1
  have hsz := Rp.1.1 hfr
  have hKn := hKK.1.1 ci _ hc
  have hl2 : G.2.1 (Γ.1 + 1) ≤ G.1.2.1 := by
    rw [ad_own hKK.2.1 (Nat.le_succ_of_le Rp.2.1)]
    have := Rp.2.1
    omega
  refine W.newcK hx hb hown (hts _ w1) (hts _ w2) (hts _ w3) rfl hd hk (by rw [← hN]; exact hs) hKn.2.1 hsz fun H1 kC hkC e1 z1 o1 => ?_
  rw [← hN]
  refine kk H1 (Rp.grown hfr hKK.2.1 hl2 (by rw [z1, hsz]) (fun q hq => o1 q (by rw [← hsz]; exact hq)) ?_) (by rw [z1, hsz]) (fun q hq => o1 q (by rw [← hsz]; exact hq)) ⟨Nat.le_trans hS.1 (by omega), fun q h1 h2 => (o1 q (by have := hS.1; omega)).trans (hS.2.1 q h1 h2), hS.2.2⟩
  intro e he
  have he2 : h_cell G (0, ci) (zc σ Γ.1) Γ.1 = some (.inr (ci, h_fs G (zc σ Γ.1) ci Γ.1)) := rfl
  rw [he2] at he
  cases he
  refine ⟨_, hc, (u_born ty hts hin hKn hkC e1 hty).to (fun j hj => ?_)⟩
  rw [h_fs_V (by rw [hN]; exact hj), hdf j hj]
  unfold h_v
  simp only [zc, up1, if_true]
  generalize c_t ci j = t9
  match t9 with
  | 0 => rfl
  | 1 => rfl
  | t + 2 => rfl
theorem L_callI {G : gg} {Γ g : ly} {σ t : mm} {NC index a : Nat} {y2 : MethodName} {cc2 : ByteArray} {nL2 : Nat} (mc2 ms2 : Nat) (hx : p.tables.exec = Jvm.exec) (hb : c.code = code) (hml : c.maxLocals = 7) (hown : s.vm.findClass RL = some m.cls) (hts : ∀ w ∈ lw_tbl, w.before #[Value.ref b] s = true)
    (hd : decode code pc = .ok (.invokespecial index, 3)) (C : CId RL index y2 cc2 nL2 0) (hst : (st.map fun v => v.category).sum ≤ 8) (Rp : Rep G Γ σ H) (hKK : KK G s s.heap) (hbase : s.heap.size ≤ G.1.1) (hS : va_S (fun q => s.heap.size ≤ q) s.heap H locs) (hl : ls.size = 7) (hk : k + mc2 ≤ 601024) (hn2 : n + ms2 ≤ 7293034)
    (hM : CT l G y2 cc2 nL2 none 2047 mc2 ms2 [.ref (G.2.1 a)] Γ σ (fun v Γ' σ' => v = none ∧ Γ' = (g, t).1 ∧ σ' = (g, t).2 ∧ Γ'.1 = Γ.1 + NC ∧ ∀ e b, tyOK Γ e b → tyOK Γ' e b))
    (kk : ∀ (H1 : Heap) (locs1 : List Loc), g.1 = Γ.1 + NC → (∀ e b, tyOK Γ e b → tyOK g e b) → Rep G g t H1 → H.size ≤ H1.size → (∀ q, q < H.size → ¬ g_own G q → H1[q]? = H[q]?) → va_S (fun q => s.heap.size ≤ q) s.heap H1 locs1 → W p l e room_1 s m #[Value.ref b] below meth c H1 locs1 (k + mc2) (n + ms2) Z (F0 m (pc + 3) ls st)) : W p l e room_1 s m #[Value.ref b] below meth c H locs k n Z (F0 m pc ls (.ref (G.2.1 a) :: st)) := by
  obtain ⟨c1, c2, c3, c4, c5, c6, c7⟩ := C
  have hg : ∀ w ∈ gw, w ∈ lw_tbl ∧ ((w.onTables && w.keeps) = true ∨ ∃ ty, w = .arrayClass ty) := fun w hw => ⟨(List.mem_filter.mp hw).1, good_of_word (gw_good w hw)⟩
  have hgi : GoodIn lw_tbl (Cond.code y2 cc2 nL2 none :: gw) := by
    intro w hw
    rcases List.mem_cons.mp hw with rfl | h
    · exact hg _ c4
    · exact hg _ h
  have hkeep : ∀ q, q < s.heap.size → ¬ g_own G q → H[q]? = s.heap[q]? := fun q hq _ => hS.2.1 q hq (by omega)
  have hr := va_runI (p := p) (l := l) (e := e) (R := room_1) (below := below) (meth := meth) (H := H) (locs := locs) (cells := k) (slots := n) (Ts := lw_tbl) (As := []) (rest := st) (g := F0 m pc ls (.ref (G.2.1 a) :: st)) ⟨hx, hb, hml, hown, hts⟩ hM ⟨callB_of 0 hts hgi rfl rfl rfl (hts _ (hg _ c3).1) (hts _ (hg _ c1).1) c7 ⟨by show 2047 + 1 ≤ 2048; decide, by show 8 + (nL2 + 11) + (41 * 2047 + 32) ≤ 84000; omega⟩, c6, hts _ (hg _ c2).1⟩ ⟨pc_blind, fun U hU hW => ⟨rfl, by rw [hU]; exact Rp, by rw [hU]; exact KK.warm hW (hKK.kept hkeep)⟩⟩ rfl rfl hl rfl (lv_room hst) hd ⟨hk, hn2⟩
  intro T hT X
  obtain ⟨v, st₀, t9, T', L2, h0, X', hL, e1, e2, ⟨⟨v2, Γ', σ', hv, hp, hb'⟩, hz, hk'⟩, st'⟩ := hr T hT X
  cases hv
  obtain ⟨g1, g2, g3, g4, g5⟩ := hp
  have g2 : Γ' = g := g2
  have g3 : σ' = t := g3
  subst g1
  rw [g2] at g4 g5 hb'
  rw [g3] at hb'
  rw [h0] at hz hk'
  obtain ⟨t2, a1, b1⟩ := kk T'.heap (locs ++ L2) g4 g5 (by rw [e1]; exact hb') (by rw [e1]; exact hz) (fun q h1 h2 => by rw [e1]; exact hk' q h1 h2)
    ⟨Nat.le_trans hS.1 (by rw [e1]; exact hz), fun q h1 h2 => by
      rw [e1, hk' q (Nat.lt_of_lt_of_le h1 hS.1) (fun z => h2 (Nat.le_trans hbase z.1))]
      exact hS.2.1 q h1 h2, fun q hq => by
      rcases List.mem_append.mp hq with h | h
      · exact hS.2.2 q h
      · exact Nat.le_trans hbase (hL q h).1⟩ T' rfl X'
  exact ⟨t2, st' t2 a1, b1⟩
end LB
theorem Rep.base {D : va_G} {cy : Nat → ClassId} {adE : Nat → Nat} {base lim : Nat} {H : Heap} (hs : H.size = base) (hl : base ≤ lim) : Rep ((base, lim, true), adOf adE base, D, cy, fun _ => True) L0 S0 H := by
  have e : adOf adE base 64 = base := by
    have := adOf_ge (adE := adE) (base := base) (k := 0)
    simpa using this
  refine ⟨⟨fun _ => ?_, ?_, fun _ _ _ _ => trivial, fun _ _ => trivial⟩, Nat.le_refl _, fun k h1 h2 => ?_, fun k e h1 h2 => ?_⟩
  · show H.size = adOf adE base 64
    rw [e]; exact hs
  · show adOf adE base 64 ≤ lim
    rw [e]; exact hl
  · exact absurd h2 (by show ¬ k < 64; omega)
  · exact absurd h2 (by show ¬ k < 64; omega)
theorem Rep.close {D : va_G} {cy : Nat → ClassId} {ad : Nat → Nat} {base lim : Nat} {Γ : ly} {σ : mm} {H : Heap} (Rp : Rep ((base, lim, true), ad, D, cy, fun _ => True) Γ σ H) : Rep ((base, H.size, false), ad, D, cy, fun _ => True) Γ σ H := by
  refine ⟨⟨fun q => absurd (show false = true from q) (by decide), ?_, fun _ _ _ _ => trivial, fun _ _ => trivial⟩, Rp.2.1, Rp.2.2.1, Rp.2.2.2⟩
  show ad Γ.1 ≤ H.size
  rw [Rp.1.1 rfl]
  exact Nat.le_refl _
set_option maxHeartbeats 4000000 in
set_option maxRecDepth 100000 in
/-- THE LAW FROM ITS ENTRY: the two objects and the row are made; the loop is next -/
theorem law_begin {p : Program} {l : Launch} {e : Env} {s : State} {m : MethodId} {below : List Frame} {meth : Method} {c : Code} {b L : Nat} {xs : Nat → Int32} (C0 : lw_At p s m meth c b L xs) {ΓC ΓM : ly} {σC σM : mm} (hfC : fX12_init (grow L0 (0, 11)) (zc S0 64) 64 = some (ΓC, σC)) (hfM : fX13_init (grow L0 (0, 12)) (zc S0 64) 64 = some (ΓM, σM))
    (kk : ∀ (GC GM : gg) (cJ : ClassId) (qo : Nat) (H : Heap) (locs : List Loc) (ls : Array Slot), (∀ O, LF (setO GC O) GM cJ qo s) → (∀ q, GC.2.2.2.2 q) → (∀ q, GM.2.2.2.2 q) → Rep GC ΓC σC H → Rep GM ΓM σM H → H[qo]? = some (vp_cell cJ (1, .inr (.inl (fun _ => 0)))) → va_S (fun q => s.heap.size ≤ q) s.heap H locs → tyOK ΓC (0, 11) 64 → tyOK ΓM (0, 12) 64 → lv_has ls 7 [(0, .ref b), (1, .ref (GC.2.1 64)), (2, .ref (GM.2.1 64)), (3, .ref qo), (4, .int (nI 0))] → W p l e room_1 s m #[Value.ref b] below meth c H locs (226 + 0) (23670 + 6 * 0) (lw_Z below #[Value.ref b] s) (F0 m 23 ls [])) :
    W p l e room_1 s m #[Value.ref b] below meth c s.heap [] 0 0 (lw_Z below #[Value.ref b] s) (entryFrame m ([Value.ref b] : List Value).toArray 7) := by
  obtain ⟨hx, hb, hr, hml, hown, hts, hX, hbl, hlocks, hgv⟩ := id C0
  obtain ⟨D, cy, adE, hKKf⟩ := start_KK C0
  have hl := lv_entry ([.ref b]) (n := 7) (Nat.le_of_ble_eq_true rfl)
  rw [lg_entry_eq]
  generalize (lg_sl ([.ref b]) ++ List.replicate (7 - (lg_sl ([.ref b])).length) Slot.unset).toArray = ls at hl ⊢
  have hl : lv_has ls 7 [(0, .ref b)] := hl
  have hS : va_S (fun q : Nat => s.heap.size ≤ q) s.heap s.heap [] := va_S.rf
  -- GlassVows
  have k1 := hKKf s.heap.size (s.heap.size + 700000) true (fun _ => True) (Nat.le_refl _)
  have R1 : Rep ((s.heap.size, s.heap.size + 700000, true), adOf adE s.heap.size, D, cy, fun _ => True) L0 S0 s.heap := Rep.base rfl (by omega)
  refine L_new (G := ((s.heap.size, s.heap.size + 700000, true), adOf adE s.heap.size, D, cy, fun _ => True)) hx hb hown hts dL_0 nwL_8 rfl (by show s.heap.size + 64 + 1 ≤ s.heap.size + 700000 + 64; omega) (by decide) (by decide) R1 k1 hS (fun H1 R1 z1 o1 hS => ?_)
  refine lv_dup hx hb dL_3 rfl ?_
  refine L_callI (G := ((s.heap.size, s.heap.size + 700000, true), adOf adE s.heap.size, D, cy, fun _ => True)) (Γ := grow L0 (0, 11)) (a := 64) (g := ΓC) (t := σC) 206 4579 hx hb hml hown hts dL_4 ciL_18 (Nat.le_of_ble_eq_true rfl) R1 k1 (Nat.le_refl _) hS hl.1 (by decide) (by decide) (kX12_init 2047 (by decide) rfl (by show s.heap.size + (64 + 1) + 206 ≤ s.heap.size + 700000 + 64; omega) 64 (tyOK_new (by decide)) (ΓC, σC) hfC) (fun H2 locs2 q2 gr2 R1 z2 o2 hS => ?_)
  have tx : tyOK ΓC (0, 11) 64 := gr2 _ _ (tyOK_new (by decide))
  have R1 := R1.close
  have k1o := fun O => hKKf s.heap.size H2.size false O (Nat.le_refl _)
  have k1 := k1o (fun _ => True)
  have hH2 : s.heap.size ≤ H2.size := hS.1
  refine lv_astore_n (lv' := [(1, .ref (adOf adE s.heap.size 64)), (0, .ref b)]) hx hb dL_7 rfl hl (by decide) rfl (fun ls hl => ?_)
  -- GlassVowsModel
  have k2 := hKKf H2.size (H2.size + 700000) true (fun _ => True) hH2
  have R2 : Rep ((H2.size, H2.size + 700000, true), adOf adE H2.size, D, cy, fun _ => True) L0 S0 H2 := Rep.base rfl (by omega)
  refine L_new (G := ((H2.size, H2.size + 700000, true), adOf adE H2.size, D, cy, fun _ => True)) hx hb hown hts dL_8 nwL_19 rfl (by show H2.size + 64 + 1 ≤ H2.size + 700000 + 64; omega) (by decide) (by decide) R2 k2 hS (fun H3 R2 z3 o3 hS => ?_)
  have R1 := R1.off (H1 := H3) rfl k1.2.1 (fun q9 hq _ => o3 q9 hq)
  refine lv_dup hx hb dL_11 rfl ?_
  refine L_callI (G := ((H2.size, H2.size + 700000, true), adOf adE H2.size, D, cy, fun _ => True)) (Γ := grow L0 (0, 12)) (a := 64) (g := ΓM) (t := σM) 17 19029 hx hb hml hown hts dL_12 ciL_21 (Nat.le_of_ble_eq_true rfl) R2 k2 hH2 hS hl.1 (by decide) (by decide) (kX13_init 2047 (by decide) rfl (by show H2.size + (64 + 1) + 17 ≤ H2.size + 700000 + 64; omega) 64 (tyOK_new (by decide)) (ΓM, σM) hfM) (fun H4 locs4 q4 gr4 R2 z4 o4 hS => ?_)
  have tm : tyOK ΓM (0, 12) 64 := gr4 _ _ (tyOK_new (by decide))
  have R1 := R1.off (H1 := H4) rfl k1.2.1 (fun q9 hq (w : g_own _ q9) => o4 q9 hq (fun (w2 : g_own _ q9) => by
    have h1 : q9 < H2.size := w.2.1
    have h2 : H2.size ≤ q9 := w2.1
    omega))
  have R2 := R2.close
  have k2 := hKKf H2.size H4.size false (fun _ => True) hH2
  have hH4 : H2.size ≤ H4.size := by omega
  refine lv_astore_n (lv' := [(2, .ref (adOf adE H2.size 64)), (1, .ref (adOf adE s.heap.size 64)), (0, .ref b)]) hx hb dL_15 rfl hl (by decide) rfl (fun ls hl => ?_)
  refine lv_iconst (v := 1) hx hb dL_16 (by decide) ?_
  refine va_newaK hx hb (atype := .long) (hts _ (List.mem_filter.mp ak_4).1) rfl dL_17 rfl (by decide) (N := 1) (by decide) (by decide) (by decide) (by decide) rfl fun H5 cJ e5 z5 o5 hAr hNm => ?_
  have hcJ : cJ = cy 4 := Option.some.inj (hNm.symm.trans (k1.1.2 4 _ rfl).2)
  have hS : va_S (fun q : Nat => s.heap.size ≤ q) s.heap H5 locs4 := ⟨Nat.le_trans hS.1 (by omega), fun q h1 h2 => (o5 q (by have := hS.1; omega)).trans (hS.2.1 q h1 h2), hS.2.2⟩
  have R1 := R1.off (H1 := H5) rfl k1.2.1 (fun q9 hq _ => o5 q9 hq)
  have R2 := R2.off (H1 := H5) rfl k2.2.1 (fun q9 hq _ => o5 q9 hq)
  refine lv_astore_n (lv' := [(3, .ref H4.size), (2, .ref (adOf adE H2.size 64)), (1, .ref (adOf adE s.heap.size 64)), (0, .ref b)]) hx hb dL_19 rfl hl (by decide) rfl (fun ls hl => ?_)
  refine lv_iconst (v := 0) hx hb dL_20 (by decide) ?_
  refine lv_istore (lv' := [(4, .int (nI 0)), (3, .ref H4.size), (2, .ref (adOf adE H2.size 64)), (1, .ref (adOf adE s.heap.size 64)), (0, .ref b)]) hx hb dL_21 hl (by decide) rfl (fun ls hl => ?_)
  have FF : ∀ O, LF (setO ((s.heap.size, H2.size, false), adOf adE s.heap.size, D, cy, fun _ => True) O) ((H2.size, H4.size, false), adOf adE H2.size, D, cy, fun _ => True) cJ H4.size s := fun O => ⟨k1o O, k2, rfl, rfl, Nat.le_refl _, hH2, Nat.le_refl _, Nat.le_refl _, hH4, hcJ⟩
  refine W.widen (k := 226 + 0) (n := 23670 + 6 * 0) (by decide) (by decide) ?_
  exact kk _ _ cJ H4.size H5 locs4 ls FF (fun _ => trivial) (fun _ => trivial) R1 R2 e5 hS tx tm (lv_sub hl [4, 3, 2, 1, 0] rfl)
