theorem drawn_ok {S S' : Nat → Nat × Nat} {Q : Nat → Int → Int} {w : Nat → Nat → Int64} {rf : Nat → Nat → Option Nat} {R : Nat → Int → Int} {v : Nat → Nat → Int64} {rm : Nat → Nat → Option Nat} {n z : Int} (hS : SCok S) (hS' : SMok S') (hr : RCok rf) (hr' : RMok rm) (inv : INV Q w rf R v) (hn : 1 ≤ n ∧ n ≤ 60) (hh : R 66 102 < 600) : ∃ Q' rf' Q1 rf1 R', fX9_keep S (mk Q w rf) 120 104 = some (mk Q1 w rf1) ∧ fX3_drawHours S (mk Q1 w rf1) 104 (I (min n (600 - R 66 102))) (I z) = some (mk Q' w rf') ∧ RCok rf1 ∧ (∃ R1, fX13_snap S' (mk R v rm) 64 = some (mk R1 v rm) ∧ fX13_drawHours S' (mk R1 v rm) 64 (I n) (I z) = some (I (min n (600 - R 66 102)), mk R' v rm)) ∧ INV Q' w rf' R' v ∧ RCok rf' ∧ R' 64 32 = R 64 32 ∧ R' 78 = R 78 := by
  have inv' := inv
  obtain ⟨ta, ⟨wf, cp, nam⟩, ⟨lo, cl⟩, ur, fa, wk, ro, se, im, sw⟩ := inv
  have hb := lo.1.1
  obtain ⟨Q1, rf1, k1, k2, k3, k4, k5⟩ := C_keep (w := w) hS hr wf cl lo ur
  have hr1 : RCok rf1 := RCok_of hr (fun a j h => k4 a j h.1)
  have cp1 : CP 67 Q1 (R 66) := CP_q cp (fun a h1 h2 => k3 a (by omega))
  obtain ⟨Q2, c1, c2, c3⟩ := C_hDs (w := w) (n := min n (600 - R 66 102)) (z := z) hS hr1 isLife104 wf lo cp1 k5 (by omega)
  have ms := M_snap (w := v) hS' hr' rfl ur.2.1
  have ml := M_hDs (S := S') (w := v) (n := n) (z := z) (R := setR (setR R 69 (snS (R 69) (R 66) (R 64 23))) 64 (updf (R 64) 23 (snn (R 64 23)))) hS' hr' (by rw [setR_ne (by omega), setR_ne (by omega)]; exact wf) (by rw [setR_ne (by omega), setR_ne (by omega)]; exact lo) (by omega)
  rw [setR_ne (a := 64) (b := 66) (by omega), setR_ne (a := 69) (b := 66) (by omega)] at ml
  generalize hK : (min n (600 - R 66 102)).toNat = K at *
  have gh := GH_hDs (z := z) wf lo K (by omega)
  refine ⟨Q2, rf1, Q1, rf1, _, k1, c1, hr1, ⟨_, ms, ml⟩, ?_, hr1, ?_, ?_⟩
  · refine INV_new inv' ?_ ?_ ?_ k4 ?_ ?_ ?_ ?_ ?_ ?_ ?_
    · intro a ha ha2
      rw [c3 a (by omega), k3 a (by unfold KQ at ha; omega)]
    · rw [c3 65 (by omega), k3 65 (by omega)]
    · rw [c3 189 (by omega), k3 189 (by omega)]
    · intro a ha h1 h2
      unfold KM at ha
      unfold DR
      rw [setR_ne (by omega), setR_ne h1, setR_ne (by omega), setR_ne h2]
    · intro j hj h1
      unfold K64 at hj
      unfold DR
      simp (disch := first | assumption | omega) only [setR_ne, setR_same, updf_ne]
    · rw [DR_66]; exact gh.1
    · rw [DR_66]; exact gh.2.2.1
    · rw [DR_66]; exact gh.2.1
    · rw [DR_66]; exact c2
    · rw [DR_66]
      unfold DR
      simp (disch := first | assumption | omega) only [setR_ne, setR_same, updf_ne, updf_same]
      exact UR_q k2 wf (fun b hb => c3 b (by omega)) rfl gh.1
  · unfold DR
    simp (disch := first | assumption | omega) only [setR_ne, setR_same, updf_ne]
  · unfold DR
    simp (disch := first | assumption | omega) only [setR_ne]
theorem op_drawn {S S' : Nat → Nat × Nat} (hS : SCok S) (hS' : SMok S') (a1 a2 : Int32) : OpC1 (fun σ => fX12_drawn S σ 64 a1 a2) (fun σ => fX13_drawn S' σ 64 a1 a2) := by
  intro t σC σM ⟨Q, w, rf, R, v, rm, q1, q2, hr, hr', inv, tx⟩; subst q1; subst q2
  obtain ⟨n, rfl, hn⟩ := exI a1
  obtain ⟨z, rfl, hz⟩ := exI a2
  have inv0 := INV_th inv
  have r66 : th0 R 66 = R 66 := th0_ne (by omega)
  have hb := inv.2.2.1.1.1.1
  have c102 := inv.2.2.1.2.1.1
  have wn0 := inv.2.1.1.1
  have c0 : Q 67 6 = R 66 0 := inv.2.1.2.1.1.1
  have k2 := C_isFrom (S := S) (σ := mk Q w rf) (v := n) (a := 1) (b := 60) hn (by omega) (by omega)
  have m2 := M_isIn (S := S') (σ := mk (th0 R) v rm) (v := n) (a := 1) (b := 60) hn (by omega) (by omega)
  by_cases h : 1 ≤ n ∧ n ≤ 60
  · rw [b2_t h] at k2 m2
    by_cases h0 : R 66 0 = 0
    · refine ⟨I (-1), mk Q w rf, mk (th0 R) v rm, ?_, ?_, Q, w, rf, th0 R, v, rm, rfl, rfl, hr, hr', inv0, tx0 tx⟩
      · simp (disch := first | assumption | omega) only [fX12_drawn, fX12_drawn_b20, I_lit, orb_I, I_add, I_sub, I_mul, I_neg, nm_eq, bd0_s, bd2_s, un2_eq, un3_eq, un4_eq, un5_eq, un6_eq, cs2_l, cs2_r, mk_1, mk_2, wI_mk, wL_mk, wR_mk, setR_same, setR_setR, rZ_0, rZ_1, rZ_b2, it_b2, it_nb2, it_b21, it_nb21, I_lt, I_le, I_eq, I_div, castI, if_true, if_false, Classical.not_not, k2, Int.reduceEq, gC64_1, c0, h0, not_true]
      · simp only [fX13_drawn, fX13_drawn_b24, th0_I]
        simp (disch := first | assumption | omega) only [I_lit, orb_I, I_add, I_sub, I_mul, I_neg, nm_eq, bd0_s, bd2_s, un2_eq, un3_eq, un4_eq, un5_eq, un6_eq, cs2_l, cs2_r, mk_1, mk_2, wI_mk, wL_mk, wR_mk, setR_same, setR_setR, rZ_0, rZ_1, rZ_b2, it_b2, it_nb2, it_b21, it_nb21, I_lt, I_le, I_eq, I_div, castI, if_true, if_false, Classical.not_not, m2, Int.reduceEq, gM14, ldM66, r66, h0, not_true]
    · by_cases h6 : R 66 102 = 600
      · refine ⟨I 0, mk Q w rf, mk (th0 R) v rm, ?_, ?_, Q, w, rf, th0 R, v, rm, rfl, rfl, hr, hr', inv0, tx0 tx⟩
        · have e : min n (600 - R 66 102) = 0 := by omega
          simp (disch := first | assumption | omega) only [fX12_drawn, fX12_drawn_b20, fX12_drawn_b55, I_lit, orb_I, I_add, I_sub, I_mul, I_neg, nm_eq, bd0_s, bd2_s, un2_eq, un3_eq, un4_eq, un5_eq, un6_eq, cs2_l, cs2_r, mk_1, mk_2, wI_mk, wL_mk, wR_mk, setR_same, setR_setR, rZ_0, rZ_1, rZ_b2, it_b2, it_nb2, it_b21, it_nb21, I_lt, I_le, I_eq, I_div, castI, if_true, if_false, Classical.not_not, k2, Int.reduceEq, gC64_1, c0, h0, not_false_eq_true, gC64_4, fX3_hoursOf, c102, mnI_I, e]
          rfl
        · simp only [fX13_drawn, fX13_drawn_b24, th0_I]
          simp (disch := first | assumption | omega) only [I_lit, orb_I, I_add, I_sub, I_mul, I_neg, nm_eq, bd0_s, bd2_s, un2_eq, un3_eq, un4_eq, un5_eq, un6_eq, cs2_l, cs2_r, mk_1, mk_2, wI_mk, wL_mk, wR_mk, setR_same, setR_setR, rZ_0, rZ_1, rZ_b2, it_b2, it_nb2, it_b21, it_nb21, I_lt, I_le, I_eq, I_div, castI, if_true, if_false, Classical.not_not, m2, Int.reduceEq, gM14, ldM66, r66, h0, not_false_eq_true, h6, not_true]
      · obtain ⟨Q', rf', Q1, rf1, R', k1, k3, k4, ⟨R1, k5, k6⟩, k7, k8, k9, k10⟩ := drawn_ok (S := S) (S' := S') (R := th0 R) (n := n) (z := z) hS hS' hr hr' inv0 h (by rw [r66]; omega)
        rw [r66] at k3 k6
        refine ⟨I (min n (600 - R 66 102)), mk Q' w rf', mk R' v rm, ?_, ?_, Q', w, rf', R', v, rm, rfl, rfl, k8, hr', k7, ?_⟩
        · have e : ¬ (min n (600 - R 66 102) ≤ 0) := by omega
          simp (disch := first | assumption | omega) only [fX12_drawn, fX12_drawn_b20, fX12_drawn_b55, I_lit, orb_I, I_add, I_sub, I_mul, I_neg, nm_eq, bd0_s, bd2_s, un2_eq, un3_eq, un4_eq, un5_eq, un6_eq, cs2_l, cs2_r, mk_1, mk_2, wI_mk, wL_mk, wR_mk, setR_same, setR_setR, rZ_0, rZ_1, rZ_b2, it_b2, it_nb2, it_b21, it_nb21, I_lt, I_le, I_eq, I_div, castI, if_true, if_false, Classical.not_not, k2, Int.reduceEq, gC64_1, c0, h0, not_false_eq_true, gC64_4, gC64_6, fX3_hoursOf, c102, mnI_I, e, k1, k3]
        · simp only [fX13_drawn, fX13_drawn_b24, th0_I]
          simp (disch := first | assumption | omega) only [I_lit, orb_I, I_add, I_sub, I_mul, I_neg, nm_eq, bd0_s, bd2_s, un2_eq, un3_eq, un4_eq, un5_eq, un6_eq, cs2_l, cs2_r, mk_1, mk_2, wI_mk, wL_mk, wR_mk, setR_same, setR_setR, rZ_0, rZ_1, rZ_b2, it_b2, it_nb2, it_b21, it_nb21, I_lt, I_le, I_eq, I_div, castI, if_true, if_false, Classical.not_not, m2, Int.reduceEq, gM14, ldM66, r66, h0, not_false_eq_true, h6, k5, k6]
        · rw [k9, k10]; exact tx0 tx
  · rw [b2_f h] at k2 m2
    refine ⟨I (-1), mk Q w rf, mk (th0 R) v rm, ?_, ?_, Q, w, rf, th0 R, v, rm, rfl, rfl, hr, hr', inv0, tx0 tx⟩
    · simp (disch := first | assumption | omega) only [fX12_drawn, fX12_drawn_b20, I_lit, orb_I, I_add, I_sub, I_mul, I_neg, nm_eq, bd0_s, bd2_s, un2_eq, un3_eq, un4_eq, un5_eq, un6_eq, cs2_l, cs2_r, mk_1, mk_2, wI_mk, wL_mk, wR_mk, setR_same, setR_setR, rZ_0, rZ_1, rZ_b2, it_b2, it_nb2, it_b21, it_nb21, I_lt, I_le, I_eq, I_div, castI, if_true, if_false, Classical.not_not, k2, Int.reduceEq]
    · simp only [fX13_drawn, fX13_drawn_b24, th0_I]
      simp (disch := first | assumption | omega) only [I_lit, orb_I, I_add, I_sub, I_mul, I_neg, nm_eq, bd0_s, bd2_s, un2_eq, un3_eq, un4_eq, un5_eq, un6_eq, cs2_l, cs2_r, mk_1, mk_2, wI_mk, wL_mk, wR_mk, setR_same, setR_setR, rZ_0, rZ_1, rZ_b2, it_b2, it_nb2, it_b21, it_nb21, I_lt, I_le, I_eq, I_div, castI, if_true, if_false, Classical.not_not, m2, Int.reduceEq]
noncomputable def oddK (N : Int → Int) (g x : Int) (K : Nat) : Nat → Int
  | 0 => 0
  | k + 1 => ii (lapA (hDs (N, x + k) K).1 g) (oddK N g x K k) (oddK N g x K k + 1)
theorem back_eq {N M A : Int → Int} (agP : AgP N M) (agS : AgS N M) (hA : ∀ j, 0 ≤ j → j < 39 → A j = N (102 + j)) : cpf M A 102 0 39 = N := by
  funext j
  by_cases h : 102 ≤ j ∧ j < 102 + 39
  · rw [cpf_in h rfl, hA _ (by omega) (by omega)]
    congr 1
    omega
  · rw [cpf_out h]
    by_cases h2 : j < 102
    · exact agP j h2
    · exact agS j (by omega)
theorem op_odds {S S' : Nat → Nat × Nat} (hS : SCok S) (hS' : SMok S') (a1 a2 a3 : Int32) : OpC1 (fun σ => fX12_odds S σ 64 a1 a2 a3) (fun σ => fX13_odds S' σ 64 a1 a2 a3) := by
  intro t σC σM ⟨Q, w, rf, R, v, rm, q1, q2, hr, hr', inv, tx⟩; subst q1; subst q2
  obtain ⟨g, rfl, hg⟩ := exI a1
  obtain ⟨n, rfl, hn⟩ := exI a2
  obtain ⟨x, rfl, hx⟩ := exI a3
  have inv0 := INV_th inv
  have r66 : th0 R 66 = R 66 := th0_ne (by omega)
  have inv' := inv
  obtain ⟨ta, ⟨wf, cp, nam⟩, ⟨lo, cl⟩, ur, fa, wk, ro, se, im, sw⟩ := inv
  have hb := lo.1.1
  have wn0 := wf.1
  have wn1 := wf.2.1
  have k1 := C_hasGlass (S := S) (w := w) hS hr wf cp hg
  have m1 := M_isGlass (S := S') (w := v) (R := th0 R) hS' hr' inv0.2.1.1 hg
  rw [r66] at m1
  have k2 := C_isFrom (S := S) (σ := mk Q w rf) (v := n) (a := 1) (b := 30) hn (by omega) (by omega)
  have m2 := M_isIn (S := S') (σ := mk (th0 R) v rm) (v := n) (a := 1) (b := 30) hn (by omega) (by omega)
  by_cases h : 0 ≤ g ∧ g < R 66 1
  · rw [b2_t h] at k1 m1
    by_cases h2 : 1 ≤ n ∧ n ≤ 30
    · rw [b2_t h2] at k2 m2
      generalize hK : (min 48 (600 - R 66 102)).toNat = K
      have hK2 : (K : Int) = min 48 (600 - R 66 102) := by omega
      generalize hR1 : setR (th0 R) 70 (cpf (th0 R 70) (th0 R 66) 0 102 39) = R1
      have R1_66 : R1 66 = R 66 := by rw [← hR1, setR_ne (by omega), r66]
      have R1_70 : ∀ j, 0 ≤ j → j < 39 → R1 70 j = R 66 (102 + j) := by
        intro j h1 h2
        rw [← hR1, setR_same, cpf_in (k := 102 + j) (by omega) (by omega), r66]
      have inv1 : INV Q w rf R1 v := INV_q inv0 (fun a h => rfl) rfl rfl (fun a h => by unfold KM at h; rw [← hR1, setR_ne (by omega)]) (fun j h => by rw [← hR1, setR_ne (by omega)])
      have tx1 : texR t (R1 64 32) (R1 78) := by
        rw [← hR1]
        simp (disch := first | assumption | omega) only [setR_ne]
        exact tx0 tx
      obtain ⟨r, c1, Q', r1, c3, c4⟩ := loop_inv (f := fX12_odds_L29 S 64 (I g) (I n) (I x)) (m := 1000) (s := (I 0, I 0, mk Q w rf)) (fun k s => ∃ Q', s = (I (oddK (R 66) g x K k), I k, mk Q' w rf) ∧ FrL 112 Q Q') (fun r => ∃ Q', r = (I (oddK (R 66) g x K n.toNat), mk Q' w rf) ∧ FrL 112 Q Q' ∧ True) n.toNat (by omega) ⟨Q, rfl, FrL_refl 112 Q⟩ (by
        intro k s hk ⟨Q', hs, b2⟩
        subst hs
        left
        have h5 : ¬ (n ≤ (k : Int)) := by omega
        have cl1 : CL 104 Q' (R 66) := CL_q cl (fun a h1 h2 => b2 a (by omega))
        have cpy := C_copyLife (S := S) (Q := Q') (w := w) hS hr isLife112 isLife104 (by omega)
        have cl2 := CL_cp (l := 112) (l' := 104) (by omega) (by omega) cl1
        have fr2 := FrL_cp (l := 112) (l' := 104) (Q := Q')
        have cp2 : CP 67 (cpLife 112 104 Q') (R 66) := CP_q cp (fun a h1 h2 => by rw [fr2 a (by omega), b2 a (by omega)])
        obtain ⟨Q3, d1, d2, d3⟩ := C_hDs (S := S) (w := w) (n := min 48 (600 - R 66 102)) (z := x + k) hS hr isLife112 wf lo cp2 cl2 (by omega)
        rw [hK] at d2
        have c102 := cl2.1.1
        refine ⟨(I (oddK (R 66) g x K (k + 1)), I ((k + 1 : Nat) : Int), mk Q3 w rf), ?_, Q3, rfl, FrL_trans b2 (FrL_trans fr2 d3)⟩
        simp (disch := first | assumption | omega) only [fX12_odds_L29, fX12_odds_b80, I_lit, orb_I, I_add, I_sub, I_mul, I_neg, nm_eq, bd0_s, bd2_s, un2_eq, un3_eq, un4_eq, un5_eq, un6_eq, cs2_l, cs2_r, mk_1, mk_2, wI_mk, wL_mk, wR_mk, setR_same, setR_setR, rZ_0, rZ_1, rZ_b2, it_b2, it_nb2, it_b21, it_nb21, I_lt, I_le, I_eq, I_div, castI, if_true, if_false, Classical.not_not, h5, gC64_5, gC64_4, cpy, fX3_hoursOf, c102, mnI_I, d1, C_isLapsed d2]
        show _ = some (Sum.inl (I (ii _ _ _), _, _))
        by_cases q : lapA (hDs (R 66, x + (k : Int)) K).1 g
        · rw [ii_t q, if_pos q]; rfl
        · rw [ii_f q, if_neg q]; rfl) (by
        intro s ⟨Q', hs, b2⟩
        subst hs
        have h5 : (n ≤ (n.toNat : Int)) := by omega
        refine ⟨_, ?_, Q', rfl, b2, trivial⟩
        simp (disch := first | assumption | omega) only [fX12_odds_L29, I_lit, orb_I, I_add, I_sub, I_mul, I_neg, nm_eq, bd0_s, bd2_s, un2_eq, un3_eq, un4_eq, un5_eq, un6_eq, cs2_l, cs2_r, mk_1, mk_2, wI_mk, wL_mk, wR_mk, setR_same, setR_setR, rZ_0, rZ_1, rZ_b2, it_b2, it_nb2, it_b21, it_nb21, I_lt, I_le, I_eq, I_div, castI, if_true, if_false, Classical.not_not, h5])
      subst r1
      obtain ⟨r, e1, R', r2, e3, e4, e5⟩ := loop_inv (f := fX13_odds_L35 S' 64 (I g) (I n) (I x)) (m := 1000) (s := (I 0, I 0, mk R1 v rm)) (fun k s => ∃ R', s = (I (oddK (R 66) g x K k), I k, mk R' v rm) ∧ (∀ a, a ≠ 64 → R' a = R1 a) ∧ (∀ j, j ≠ 33 → R' 64 j = R1 64 j)) (fun r => ∃ R', r = (I (oddK (R 66) g x K n.toNat), mk R' v rm) ∧ (∀ a, a ≠ 64 → R' a = R1 a) ∧ (∀ j, j ≠ 33 → R' 64 j = R1 64 j) ∧ True) n.toNat (by omega) ⟨R1, rfl, fun a h => rfl, fun j h => rfl⟩ (by
        intro k s hk ⟨R', hs, b1, b2⟩
        subst hs
        left
        have h5 : ¬ (n ≤ (k : Int)) := by omega
        have R'66 : R' 66 = R 66 := by rw [b1 66 (by omega), R1_66]
        have md := M_hDs (S := S') (w := v) (R := R') (n := 48) (z := x + k) hS' hr' (by rw [R'66]; exact wf) (by rw [R'66]; exact lo) (by omega)
        rw [R'66, hK] at md
        have gh := GH_hDs (z := x + k) wf lo K (by omega)
        have mb := M_takeBack (S := S') (w := v) (R := DR R' (hDs (R 66, x + k) K)) hS' hr'
        have e70 : DR R' (hDs (R 66, x + k) K) 70 = R1 70 := by
          unfold DR
          rw [setR_ne (by omega), setR_ne (by omega), b1 70 (by omega)]
        rw [DR_66, e70, back_eq gh.1 gh.2.2.1 R1_70, DR_N] at mb
        have ml := M_isLapsed (S := S') (w := v) (R := DR R' (hDs (R 66, x + k) K)) (g := g) hS' hr'
        rw [DR_66] at ml
        refine ⟨(I (oddK (R 66) g x K (k + 1)), I ((k + 1 : Nat) : Int), mk (DR R' (R 66, (hDs (R 66, x + k) K).2)) v rm), ?_, _, rfl, ?_, ?_⟩
        · simp (disch := first | assumption | omega) only [fX13_odds_L35, fX13_odds_b63, I_lit, orb_I, I_add, I_sub, I_mul, I_neg, nm_eq, bd0_s, bd2_s, un2_eq, un3_eq, un4_eq, un5_eq, un6_eq, cs2_l, cs2_r, mk_1, mk_2, wI_mk, wL_mk, wR_mk, setR_same, setR_setR, rZ_0, rZ_1, rZ_b2, it_b2, it_nb2, it_b21, it_nb21, I_lt, I_le, I_eq, I_div, castI, if_true, if_false, Classical.not_not, h5, md, ml, mb]
          show _ = some (Sum.inl (I (ii _ _ _), _, _))
          by_cases q : lapA (hDs (R 66, x + (k : Int)) K).1 g
          · rw [ii_t q, if_pos q]; rfl
          · rw [ii_f q, if_neg q]; rfl
        · intro a ha
          by_cases h66 : a = 66
          · rw [h66, DR_66, R1_66]
          · unfold DR
            rw [setR_ne ha, setR_ne h66, b1 a ha]
        · intro j hj
          unfold DR
          rw [setR_same, updf_ne hj, b2 j hj]) (by
        intro s ⟨R', hs, b1, b2⟩
        subst hs
        have h5 : (n ≤ (n.toNat : Int)) := by omega
        refine ⟨_, ?_, R', rfl, b1, b2, trivial⟩
        simp (disch := first | assumption | omega) only [fX13_odds_L35, I_lit, orb_I, I_add, I_sub, I_mul, I_neg, nm_eq, bd0_s, bd2_s, un2_eq, un3_eq, un4_eq, un5_eq, un6_eq, cs2_l, cs2_r, mk_1, mk_2, wI_mk, wL_mk, wR_mk, setR_same, setR_setR, rZ_0, rZ_1, rZ_b2, it_b2, it_nb2, it_b21, it_nb21, I_lt, I_le, I_eq, I_div, castI, if_true, if_false, Classical.not_not, h5])
      subst r2
      refine ⟨I (oddK (R 66) g x K n.toNat), mk Q' w rf, mk R' v rm, ?_, ?_, Q', w, rf, R', v, rm, rfl, rfl, hr, hr', ?_, ?_⟩
      · simp (disch := first | assumption | omega) only [fX12_odds, I_lit, orb_I, I_add, I_sub, I_mul, I_neg, nm_eq, bd0_s, bd2_s, un2_eq, un3_eq, un4_eq, un5_eq, un6_eq, cs2_l, cs2_r, mk_1, mk_2, wI_mk, wL_mk, wR_mk, setR_same, setR_setR, rZ_0, rZ_1, rZ_b2, it_b2, it_nb2, it_b21, it_nb21, I_lt, I_le, I_eq, I_div, castI, if_true, if_false, Classical.not_not, gC64_1, k1, Int.reduceEq, k2, not_false_eq_true, c1]
      · have ma := M_layAside (S := S') (w := v) (R := th0 R) hS' hr'
        rw [hR1] at ma
        simp only [fX13_odds, th0_I]
        simp (disch := first | assumption | omega) only [I_lit, orb_I, I_add, I_sub, I_mul, I_neg, nm_eq, bd0_s, bd2_s, un2_eq, un3_eq, un4_eq, un5_eq, un6_eq, cs2_l, cs2_r, mk_1, mk_2, wI_mk, wL_mk, wR_mk, setR_same, setR_setR, rZ_0, rZ_1, rZ_b2, it_b2, it_nb2, it_b21, it_nb21, I_lt, I_le, I_eq, I_div, castI, if_true, if_false, Classical.not_not, m1, m2, Int.reduceEq, not_false_eq_true, ma, e1]
      · refine INV_q inv1 ?_ ?_ ?_ ?_ ?_
        · intro a ha
          unfold KQ at ha
          exact c3 a (by omega)
        · rw [c3 65 (by omega)]
        · rw [c3 189 (by omega)]
        · intro a ha
          unfold KM at ha
          exact e3 a (by omega)
        · intro j hj
          unfold K64 at hj
          exact e4 j (by omega)
      · rw [e4 32 (by omega), e3 78 (by omega)]; exact tx1
    · rw [b2_f h2] at k2 m2
      refine ⟨I (-1), mk Q w rf, mk (th0 R) v rm, ?_, ?_, Q, w, rf, th0 R, v, rm, rfl, rfl, hr, hr', inv0, tx0 tx⟩
      · simp (disch := first | assumption | omega) only [fX12_odds, fX12_odds_b21, I_lit, orb_I, I_add, I_sub, I_mul, I_neg, nm_eq, bd0_s, bd2_s, un2_eq, un3_eq, un4_eq, un5_eq, un6_eq, cs2_l, cs2_r, mk_1, mk_2, wI_mk, wL_mk, wR_mk, setR_same, setR_setR, rZ_0, rZ_1, rZ_b2, it_b2, it_nb2, it_b21, it_nb21, I_lt, I_le, I_eq, I_div, castI, if_true, if_false, Classical.not_not, gC64_1, k1, Int.reduceEq, k2, not_true]
      · simp only [fX13_odds, fX13_odds_b23, th0_I]
        simp (disch := first | assumption | omega) only [I_lit, orb_I, I_add, I_sub, I_mul, I_neg, nm_eq, bd0_s, bd2_s, un2_eq, un3_eq, un4_eq, un5_eq, un6_eq, cs2_l, cs2_r, mk_1, mk_2, wI_mk, wL_mk, wR_mk, setR_same, setR_setR, rZ_0, rZ_1, rZ_b2, it_b2, it_nb2, it_b21, it_nb21, I_lt, I_le, I_eq, I_div, castI, if_true, if_false, Classical.not_not, m1, m2, Int.reduceEq, not_true]
  · rw [b2_f h] at k1 m1
    refine ⟨I (-1), mk Q w rf, mk (th0 R) v rm, ?_, ?_, Q, w, rf, th0 R, v, rm, rfl, rfl, hr, hr', inv0, tx0 tx⟩
    · simp (disch := first | assumption | omega) only [fX12_odds, fX12_odds_b21, I_lit, orb_I, I_add, I_sub, I_mul, I_neg, nm_eq, bd0_s, bd2_s, un2_eq, un3_eq, un4_eq, un5_eq, un6_eq, cs2_l, cs2_r, mk_1, mk_2, wI_mk, wL_mk, wR_mk, setR_same, setR_setR, rZ_0, rZ_1, rZ_b2, it_b2, it_nb2, it_b21, it_nb21, I_lt, I_le, I_eq, I_div, castI, if_true, if_false, Classical.not_not, gC64_1, k1, Int.reduceEq]
    · simp only [fX13_odds, fX13_odds_b23, th0_I]
      simp (disch := first | assumption | omega) only [I_lit, orb_I, I_add, I_sub, I_mul, I_neg, nm_eq, bd0_s, bd2_s, un2_eq, un3_eq, un4_eq, un5_eq, un6_eq, cs2_l, cs2_r, mk_1, mk_2, wI_mk, wL_mk, wR_mk, setR_same, setR_setR, rZ_0, rZ_1, rZ_b2, it_b2, it_nb2, it_b21, it_nb21, I_lt, I_le, I_eq, I_div, castI, if_true, if_false, Classical.not_not, m1, Int.reduceEq]
