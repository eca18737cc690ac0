/-! case 31: banns -/
theorem law_banns {p : Program} {l : Launch} {e : Env} {s : State} {m : MethodId} {b : Nat} {below : List Frame} {meth : Method} {c : Code} {L : Nat} {xs : Nat → Int32} (C0 : lw_At p s m meth c b L xs) (hL3 : L ≤ 3072) (GC GM : gg) (cJ : ClassId) (qo : Nat) (ΓC ΓM : ly) (F : LF (setO GC (cutO GC)) GM cJ qo s) (h271 : GC.1.1 + 207 ≤ GC.1.2.1) (hSC : SCok ΓC.2) (hSM : SMok ΓM.2) (tx : tyOK ΓC (0, 11) 64) (tm : tyOK ΓM (0, 12) 64) : CaseOK p l e s m b below meth c L xs (setO GC (cutO GC)) GM ΓC ΓM cJ qo (NBx GC GM qo) (fun _ t => SimX t) 1193 := by
  obtain ⟨hx, hb, hr, hml, hown, hts, hX, hbl, hlocks, hgv⟩ := id C0
  intro i k n t σC σM H locs ls Z h6 hk hn hs I9 hlv tl
  obtain ⟨R1, R2, ⟨ov, ho⟩, hS, hnB⟩ := I9
  obtain ⟨k1, k2, f1, f2, b1, b2, b3, b4, b5, hcJ⟩ := id F
  obtain ⟨z, hz⟩ := start_9 C0 k1
  have hqo : qo < H.size := (Array.getElem?_eq_some_iff.mp ho).1
  have hA9 : ∀ k, GC.2.1 (64 + k) = GC.1.1 + k := k1.2.1
  obtain ⟨A, cap, hc16, hcap, hA, hrg, hsb⟩ := sb_of_nb hA9 h271 hnB
  have hB : EB (EL GC z s.heap.size H.size A) := eb_of F h271 hS hqo hA
  obtain ⟨ap1, ap2⟩ := ot_apart (z := z) F h271 hqo hA
  obtain ⟨Q, w, rf, R, v, rm, q1, q2, hr1, hr', inv, tx9⟩ := id hs
  subst q1
  subst q2
  have h9 : (mk Q w rf).2.2 64 16 = some 209 := rfC64_16 hr1
  have h1 : (mk Q w rf).2.2 64 1 = some 67 := rfC64_1 hr1
  have h4 : (mk Q w rf).2.2 64 4 = some 104 := rfC64_4 hr1
  have t4 : tyOK ΓC (0, 4) 67 := ty_get R1 tx (ci := 11) (j := 1) (by decide) rfl h1
  have t3 : tyOK ΓC (0, 3) 104 := ty_get R1 tx (ci := 11) (j := 4) (by decide) rfl h4
  obtain ⟨g, hg, hgr⟩ := exI (xs (i + 1))
  have hc34 : cap ≤ 34 := by unfold c16 at hc16; omega
  have hbt : ∀ j, j < (Tt t).length → 0 ≤ (Tt t).getD j 0 ∧ (Tt t).getD j 0 < 256 := fun j hj => by
    rw [Tt_len] at hj
    rw [Tt_at hj]
    exact hrg j hj
  have inv0 := id inv
  obtain ⟨ta, ⟨wf, cp, nm⟩, ⟨li, cl⟩, -⟩ := inv0
  have cg := C_hasGlass (S := ΓC.2) (w := w) hSC hr1 wf cp hgr
  have fin : ∀ (t1 : Nat × (Int → Int)) (r1 : Int32) (σC1 σM1 : mm) (H1 : Heap) (locs1 : List Loc), fX13_banns ΓM.2 (mk R v rm) 64 (xs (i + 1)) = some (r1, σM1) → SimX t1 σC1 σM1 → Rep (setO GC (cutO GC)) ΓC σC1 H1 → NBx GC GM qo t1 H1 → H.size ≤ H1.size → (∀ q, q < H.size → ¬ OT (EL GC z s.heap.size H.size A) q → H1[q]? = H[q]?) → va_S (fun q => s.heap.size ≤ q) s.heap H1 locs1 → W p l e room_1 s m #[Value.ref b] below meth c H1 locs1 (k + 1) (n + 34) Z (F0 m 1203 ls [.int r1]) := by
    intro t1 r1 σC1 σM1 H1 locs1 e2 hs' R1 hnB z1 o1 hS
    have R2 := R2.off (H1 := H1) f2 k2.2.1 (fun q9 hq w9 => o1 q9 hq (ap1 q9 w9))
    have ho : H1[qo]? = _ := (o1 qo hqo ap2).trans ho
    refine lv_aload_n hx hb dL_1203 rfl (lv_at hlv 2 rfl) ?_
    refine L_arg 1 0 4 hx hb hX hbl hL3 hS hlv rfl rfl (by omega) (by decide) dL_1204 dL_1205 dL_1207 dL_1208 dL_1209 ?_
    refine L_call (G := GM) (Γ := ΓM) (σ := mk R v rm) (σ2 := σM1) (a := 64) (ci := 12) (r := r1) [.int (xs (i + 1))] hx hb hml hown hts dL_1210 cvL_157 rfl rfl tm rfl rfl (Nat.le_of_ble_eq_true rfl) R2 k2 b2 hS hlv.1 (by omega) (by omega) (kX13_banns 2047 (by decide) 64 (xs (i + 1)) tm (r1, σM1) e2) (fun H2 locs2 R2 z2 o2 hS => ?_)
    have R1 := R1.off (H1 := H2) f1 k1.2.1 (fun q9 hq w9 => o2 q9 hq (fun w2 => by
      have w3 : q9 < GC.1.2.1 := w9.2.1
      have w4 := w2.1
      have b3' : GC.1.2.1 ≤ GM.1.1 := b3
      omega))
    have hnB := nb_stays F hA9 h271 H1 H2 hnB z2 (fun q9 h1 _ h2 _ => o2 q9 h1 h2)
    have ho : H2[qo]? = _ := (o2 qo (Array.getElem?_eq_some_iff.mp ho).1 (fun w2 => by have := w2.2.1; omega)).trans ho
    refine lv_icmp_eq (tgt := 1492) hx hb dL_1213 (by decide) (fun _ => ?_) (fun w => absurd rfl w)
    exact W.widen (by omega) (by omega) (tl t1 σC1 σM1 H2 locs2 ls hs' ⟨R1, R2, ⟨ov, ho⟩, hS, hnB⟩ hlv)
  refine lv_aload_n hx hb dL_1193 rfl (lv_at hlv 1 rfl) ?_
  refine L_arg 1 0 4 hx hb hX hbl hL3 hS hlv rfl rfl (by omega) (by decide) dL_1194 dL_1195 dL_1197 dL_1198 dL_1199 ?_
  by_cases hin : 0 ≤ g ∧ g < R 66 1
  · rw [b2_t hin, ← hg] at cg
    obtain ⟨l1, l2, T, m1, m2, c1, c2, hT, hl64, e2⟩ := ref_banns hSM hr' inv hgr hin
    obtain ⟨Q1, l3, hTm, hT9, hTB⟩ := tm_ok (S := ΓC.2) hSC hr1 inv hin hT
    rw [← hg] at e2 hTm
    have wn0 := wf.1
    have wn1 := wf.2.1
    have wg := wf.2.2.2.2.2.2.2.2.2.2.2.2.2.2.1 g hin.1 hin.2
    have cpg := cp.2.2.1 g hin.1 hin.2
    have hsz := hSC.1 67 isPar67
    have z68 : (ΓC.2 68).2 = 8 := hsz.1
    have z75 : (ΓC.2 75).2 = 4 := hsz.2.2.2.2.2.2.2.1
    have z76 : (ΓC.2 76).2 = 4 := hsz.2.2.2.2.2.2.2.2.1
    have hpr := hr1.1 67 isPar67
    have hn0 : (mk Q w rf).2.2 67 0 = some 68 := hpr.1
    have hf0 : (mk Q w rf).2.2 67 8 = some 75 := hpr.2.2.2.2.2.2.2.1
    have hs0 : (mk Q w rf).2.2 67 9 = some 76 := hpr.2.2.2.2.2.2.2.2.1
    have tn : tyOK ΓC (4, 0) 68 := ty_get R1 t4 (ci := 4) (j := 0) (by decide) rfl hn0
    have tf : tyOK ΓC (1, 0) 75 := ty_get R1 t4 (ci := 4) (j := 8) (by decide) rfl hf0
    have ts : tyOK ΓC (1, 0) 76 := ty_get R1 t4 (ci := 4) (j := 9) (by decide) rfl hs0
    have egc : (xs (i + 1)).toNatClampNeg = g.toNat := by
      rw [hg]
      exact I_tc (by omega) (by omega)
    have egn : xs (i + 1) = nI g.toNat := by
      rw [hg]
      exact I_nn hin.1
    have v75 : (mk Q w rf).1 75 (xs (i + 1)).toNatClampNeg = nI (R 66 (56 + g)).toNat := by
      rw [egc]
      show I (Q 75 ((g.toNat : Nat) : Int)) = _
      rw [show ((g.toNat : Nat) : Int) = g by omega, show Q 75 g = R 66 (56 + g) from cpg.1, I_nn (by omega)]
    have v76 : (mk Q w rf).1 76 (xs (i + 1)).toNatClampNeg = nI (R 66 (60 + g)).toNat := by
      rw [egc]
      show I (Q 76 ((g.toNat : Nat) : Int)) = _
      rw [show ((g.toNat : Nat) : Int) = g by omega, show Q 76 g = R 66 (60 + g) from cpg.2.1, I_nn (by omega)]
    have g1 : vp_in (xs (i + 1)) (ΓC.2 75).2 := by
      rw [z75, egn]
      exact vp_in_nI (by omega) (by decide)
    have g2 : vp_in (xs (i + 1)) (ΓC.2 76).2 := by
      rw [z76, egn]
      exact vp_in_nI (by omega) (by decide)
    have g3 : vp_in ((mk Q w rf).1 75 (xs (i + 1)).toNatClampNeg) (ΓC.2 68).2 := by
      rw [z68, v75]
      exact vp_in_nI (by omega) (by decide)
    have g4 : vp_in ((mk Q w rf).1 76 (xs (i + 1)).toNatClampNeg) (ΓC.2 68).2 := by
      rw [z68, v76]
      exact vp_in_nI (by omega) (by decide)
    have e1 : (mk Q w rf).2.1 68 ((mk Q w rf).1 75 (xs (i + 1)).toNatClampNeg).toNatClampNeg = lN (n5 l1) := by
      rw [v75, nI_clamp (by omega)]
      exact c1
    have e9 : (mk Q w rf).2.1 68 ((mk Q w rf).1 76 (xs (i + 1)).toNatClampNeg).toNatClampNeg = lN (n5 l2) := by
      rw [v76, nI_clamp (by omega)]
      exact c2
    have hl34 : (lt96 l1 ++ sLt 0 ++ lt96 l2 ++ T).length ≤ 34 := by
      have a1 := m1.2.2
      have a2 := m2.2.2
      simp only [List.length_append, lt96_len, show (sLt 0).length = 5 from rfl]
      omega
    have hBt : inB (lt96 l1 ++ sLt 0 ++ lt96 l2 ++ T) := (((inB_lt (fun d hd => (m1.1 d hd).2)).app (inB_s 0 (by decide))).app (inB_lt (fun d hd => (m2.1 d hd).2))).app hTB
    refine L_callJ (E := EL GC z s.heap.size H.size A) (Γ := ΓC) (σ := mk Q w rf) (I := BI (EL GC z s.heap.size H.size A) ΓC (mk Q w rf) cap (Tt t)) [.int (xs (i + 1))] hx hb hml hown hts dL_1200 cvL_154 rfl tx rfl rfl (Nat.le_of_ble_eq_true rfl) ⟨R1, hsb z _ _⟩ R1 hB (hz _ _) rfl rfl hS hlv.1 (by omega) (by omega) (k_banns (σ' := mk Q1 w rf) (cap := cap) (T := Tt t) (L := T) hB (by decide) tx t3 t4 tn tf ts h1 h9 h4 hn0 hf0 hs0 (rfC64_16 hr1) cg g1 g2 g3 g4 m1 m2 e1 e9 hTm hc16 (by rw [Tt_len]; omega) hl34) (fun H1 locs1 hI z1 o1 hS => ?_)
    obtain ⟨cap', hc', hT', R1', hsb'⟩ := hI
    rw [txt_s] at e2 hl64
    refine fin (txT (lt96 l1 ++ sLt 0 ++ lt96 l2 ++ T)) _ (mk Q1 w rf) _ H1 locs1 e2 ⟨Q1, w, rf, _, v, rm, rfl, rfl, hr1, hr', INV_f (INV_wrs inv) l3, txT_R t0R_n hl64⟩ R1' (nb_of_sb ⟨b5, b4, hqo⟩ hA hc' hT' rfl (fun j hj => ?_) (inB_at hBt) hsb') z1 o1 hS
    show (lt96 l1 ++ sLt 0 ++ lt96 l2 ++ T).getD ((j : Int).toNat) 0 = _
    rw [Int.toNat_natCast]
  · rw [b2_f hin, ← hg] at cg
    have e2 := ref_bannsNo (S' := ΓM.2) (v := v) hSM hr' wf hgr hin
    rw [← hg] at e2
    refine L_callJ (E := EL GC z s.heap.size H.size A) (Γ := ΓC) (σ := mk Q w rf) (I := BI (EL GC z s.heap.size H.size A) ΓC (mk Q w rf) cap (Tt t)) [.int (xs (i + 1))] hx hb hml hown hts dL_1200 cvL_154 rfl tx rfl rfl (Nat.le_of_ble_eq_true rfl) ⟨R1, hsb z _ _⟩ R1 hB (hz _ _) rfl rfl hS hlv.1 (by omega) (by omega) (k_bannsNo (cap := cap) (T := Tt t) hB (by decide) tx t4 h1 cg) (fun H1 locs1 hI z1 o1 hS => ?_)
    exact fin t _ (mk Q w rf) _ H1 locs1 e2 ⟨Q, w, rf, th0 R, v, rm, rfl, rfl, hr1, hr', INV_th inv, tx0 tx9⟩ hI.1 (nb_of_sb ⟨b5, b4, hqo⟩ hA hc16 (by rw [Tt_len]; exact hcap) (Tt_len t).symm (fun j hj => (Tt_at (by rw [Tt_len] at hj; exact hj)).symm) hbt hI.2) z1 o1 hS
