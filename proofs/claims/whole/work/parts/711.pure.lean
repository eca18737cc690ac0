def CLX (l : Nat) (Q Q' : Nat → Int → Int) (N' : Int → Int) : Prop := CL l Q' N' ∧ FrL l Q Q'
theorem C_passHourOf {S : Nat → Nat × Nat} {Q : Nat → Int → Int} {w : Nat → Nat → Int64} {rf : Nat → Nat → Option Nat} {N : Int → Int} {l : Nat} {g : Int} (hS : SCok S) (hr : RCok rf) (hl : isLife l) (wf : WFP N) (wl : WFL N) (cp : CP 67 Q N) (cl : CL l Q N) (hg : 0 ≤ g ∧ g < N 1) (hlap : ¬ lapA N g) : ∃ Q', fX3_passHourOf S (mk Q w rf) l (I g) = some (mk Q' w rf) ∧ CL l Q' (stepG N g) ∧ FrL l Q Q' := by
  obtain ⟨g1, g2, g4, g5⟩ := WFP_own wf hg
  have hl2 := isLife_r hl
  have wf' := wf
  obtain ⟨wn0, wn1, wn2, wn3, wn4, wn5, wn6, wn7, wfr, wto, wff, wwa, wco, wwd, wgl, wgr, wnk, wda, wdr, wgo, wg1, wg2, wwx⟩ := wf
  have cp' := cp
  have ip67 := isPar67; obtain ⟨⟨c0, c1, c2, c3, c4, c5, c6, c7⟩, cpp, cpg, cpd, cpk⟩ := CPl_of cp
  have cl' := cl
  obtain ⟨⟨c102, c104, c103⟩, clp, clg⟩ := cl
  obtain ⟨e1, e2, e3, e4, e5⟩ := clg g hg.1 hg.2
  obtain ⟨f1, f2, f3, f4⟩ := cpg g hg.1 hg.2
  have h1 := wl.2.2.2.1 g hg.1 (by omega)
  have h2 := runA_r (h := N 102) wl (⟨hg.1, by omega⟩ : 0 ≤ g ∧ g < 4)
  have h3 := wl.2.2.2.2.2.1 g hg.1 (by omega)
  have h4 := wl.1
  have m1 := C_isWilling (w := w) hS hr hl wf' wl cp' cl' g1
  have m2 := C_isWilling (w := w) hS hr hl wf' wl cp' cl' g2
  obtain ⟨Q1, t1, t2, t3⟩ := C_turnOver (w := w) hS hr hl wf' cp' cl' g1 hg g4
  obtain ⟨Q2, u1, u2, u3⟩ := C_turnOver (w := w) hS hr hl wf' cp' cl' g2 hg g5
  unfold stepG
  rw [ii_f hlap]
  by_cases q2 : N (125 + g) = 0
  · rw [ii_t q2]
    have q3 : N (125 + g) ≤ 0 := by omega
    unfold endA
    by_cases q4 : wilA N (N (56 + g)) (N 102)
    · rw [ii_t q4]
      refine ⟨Q1, ?_, t2, t3⟩
      simp (disch := first | assumption | omega) only [fX3_passHourOf, fX3_passHourOf_b142, I_lit, orb_I, I_add, I_sub, I_mul, I_neg, nm_eq, bd0_s, bd2_s, un2_eq, un3_eq, un4_eq, un5_eq, un6_eq, cs2_l, cs2_r, mk_1, mk_2, wI_mk, wL_mk, wR_mk, setR_same, setR_setR, rZ_0, rZ_1, rZ_b2, it_b2, it_nb2, it_b21, it_nb21, I_lt, I_le, I_eq, I_div, castI, if_true, if_false, Classical.not_not, gL6, ldL3, e1, q3, gL0, gP0_8, ldP8, f1, m1, q4, t1]
    · rw [ii_f q4]
      by_cases q5 : wilA N (N (60 + g)) (N 102)
      · rw [ii_t q5]
        refine ⟨Q2, ?_, u2, u3⟩
        simp (disch := first | assumption | omega) only [fX3_passHourOf, fX3_passHourOf_b142, I_lit, orb_I, I_add, I_sub, I_mul, I_neg, nm_eq, bd0_s, bd2_s, un2_eq, un3_eq, un4_eq, un5_eq, un6_eq, cs2_l, cs2_r, mk_1, mk_2, wI_mk, wL_mk, wR_mk, setR_same, setR_setR, rZ_0, rZ_1, rZ_b2, it_b2, it_nb2, it_b21, it_nb21, I_lt, I_le, I_eq, I_div, castI, if_true, if_false, Classical.not_not, gL6, ldL3, e1, q3, gL0, gP0_8, ldP8, f1, m1, q4, gP0_9, ldP9, f2, m2, q5, u1]
      · rw [ii_f q5]
        have r1 := CL_u6 (z := g) (v := N (133 + g) + 1) cl' wn0.2 wn1.2 (by omega)
        unfold waitA
        by_cases q6 : N (133 + g) + 1 < N 3
        · rw [ii_t q6]
          refine ⟨_, ?_, r1, FrL_set (FrL_refl l Q) (by omega)⟩
          simp (disch := first | assumption | omega) only [fX3_passHourOf, fX3_passHourOf_b142, I_lit, orb_I, I_add, I_sub, I_mul, I_neg, nm_eq, bd0_s, bd2_s, un2_eq, un3_eq, un4_eq, un5_eq, un6_eq, cs2_l, cs2_r, mk_1, mk_2, wI_mk, wL_mk, wR_mk, setR_same, setR_setR, rZ_0, rZ_1, rZ_b2, it_b2, it_nb2, it_b21, it_nb21, I_lt, I_le, I_eq, I_div, castI, if_true, if_false, Classical.not_not, gL6, ldL3, e1, q3, gL0, gP0_8, ldP8, f1, m1, q4, gP0_9, ldP9, f2, m2, q5, gL9, ldL6, stL6, e4, updf_same, setR_ne, c3, q6]
        · rw [ii_f q6]
          have r2 := CL_f2 (v := orbA (N 104) g) r1 (by rw [updf_ne (by omega)]; omega) (by rw [updf_ne (by omega)]; omega)
          rw [setR_ne (by omega)] at r2
          refine ⟨_, ?_, r2, FrL_set (FrL_set (FrL_refl l Q) (by omega)) (by omega)⟩
          simp (disch := first | assumption | omega) only [fX3_passHourOf, fX3_passHourOf_b142, I_lit, orb_I, I_add, I_sub, I_mul, I_neg, nm_eq, bd0_s, bd2_s, un2_eq, un3_eq, un4_eq, un5_eq, un6_eq, cs2_l, cs2_r, mk_1, mk_2, wI_mk, wL_mk, wR_mk, setR_same, setR_setR, rZ_0, rZ_1, rZ_b2, it_b2, it_nb2, it_b21, it_nb21, I_lt, I_le, I_eq, I_div, castI, if_true, if_false, Classical.not_not, gL6, ldL3, e1, q3, gL0, gP0_8, ldP8, f1, m1, q4, gP0_9, ldP9, f2, m2, q5, gL9, ldL6, stL6, e4, updf_same, setR_ne, c3, q6, c104]
  · rw [ii_f q2]
    have q3 : ¬ (N (125 + g) ≤ 0) := by omega
    have q4 : N (125 + g) - min (N (125 + g)) (runA N g (N 102)) = max 0 (N (125 + g) - runA N g (N 102)) := by omega
    rw [q4]
    refine ⟨_, ?_, CL_u3 cl' (by omega) (by omega) (by omega), FrL_set (FrL_refl l Q) (by omega)⟩
    simp (disch := first | assumption | omega) only [fX3_passHourOf, fX3_passHourOf_b142, I_lit, orb_I, I_add, I_sub, I_mul, I_neg, nm_eq, bd0_s, bd2_s, un2_eq, un3_eq, un4_eq, un5_eq, un6_eq, cs2_l, cs2_r, mk_1, mk_2, wI_mk, wL_mk, wR_mk, setR_same, setR_setR, rZ_0, rZ_1, rZ_b2, it_b2, it_nb2, it_b21, it_nb21, I_lt, I_le, I_eq, I_div, castI, if_true, if_false, Classical.not_not, gL6, ldL3, stL3, e1, q3, c102, C_runsAt hS hr hl wf' wl cp' cl' hg (⟨by omega, h4.2⟩ : -1 ≤ N 102 ∧ N 102 ≤ 600), mxI_I]
theorem C_passHour {S : Nat → Nat × Nat} {Q : Nat → Int → Int} {w : Nat → Nat → Int64} {rf : Nat → Nat → Option Nat} {N : Int → Int} {l : Nat} (hS : SCok S) (hr : RCok rf) (hl : isLife l) (wf : WFP N) (wl : WFL N) (w8 : W8 N) (cp : CP 67 Q N) (cl : CL l Q N) : ∃ Q', fX3_passHour S (mk Q w rf) l = some (mk Q' w rf) ∧ CL l Q' (hourA N) ∧ FrL l Q Q' := by
  have hl2 := isLife_r hl
  have wn0 := wf.1
  have wn1 := wf.2.1
  have hG := OKL_hourG wf wl w8
  obtain ⟨τ, h1, Q1, rfl, a1, a2⟩ := loop_inv (f := fX3_passHour_L2 S l) (m := 1000) (s := ((0 : Int32), mk Q w rf)) (fun k s => ∃ Q', s = (I k, mk Q' w rf) ∧ CL l Q' (hourG N k) ∧ FrL l Q Q') (fun r => ∃ Q', r = mk Q' w rf ∧ CL l Q' (hourG N (N 1).toNat) ∧ FrL l Q Q') (N 1).toNat (by omega) ⟨Q, rfl, cl, FrL_refl l Q⟩ (by
      intro k t hk ⟨Q', ht, b1, b2⟩
      subst ht
      left
      obtain ⟨i1, i2, i3⟩ := hG k (by omega)
      have cp' := CP_fr cp wf hl b2 i1.1
      have n1 := OKL_n i1 (j := 1) (by omega)
      obtain ⟨⟨d0, d1, -⟩, -⟩ := cp'
      have hg : 0 ≤ (k : Int) ∧ (k : Int) < hourG N k 1 := by omega
      have h5 : ¬ (hourG N k 1 ≤ (k : Int)) := by omega
      by_cases q : lapA (hourG N k) k
      · refine ⟨(I ((k + 1 : Nat) : Int), mk Q' w rf), ?_, Q', rfl, ?_, b2⟩
        · simp (disch := first | assumption | omega) only [fX3_passHour_L2, fX3_passHour_b26, I_lit, orb_I, I_add, I_sub, I_mul, I_neg, nm_eq, bd0_s, bd2_s, un2_eq, un3_eq, un4_eq, un5_eq, un6_eq, cs2_l, cs2_r, mk_1, mk_2, wI_mk, wL_mk, wR_mk, setR_same, setR_setR, rZ_0, rZ_1, rZ_b2, it_b2, it_nb2, it_b21, it_nb21, I_lt, I_le, I_eq, I_div, castI, if_true, if_false, Classical.not_not, gL0, d1, h5, C_isLapsed b1, q]
          rfl
        · show CL l Q' (stepG (hourG N k) k)
          unfold stepG
          rw [ii_t q]
          exact b1
      · obtain ⟨Q2, c1, c2, c3⟩ := C_passHourOf (w := w) hS hr hl (OKL_wf wf i1) i1.2.1 (CP_fr cp wf hl b2 i1.1) b1 hg q
        refine ⟨(I ((k + 1 : Nat) : Int), mk Q2 w rf), ?_, Q2, rfl, c2, FrL_trans b2 c3⟩
        simp (disch := first | assumption | omega) only [fX3_passHour_L2, fX3_passHour_b26, I_lit, orb_I, I_add, I_sub, I_mul, I_neg, nm_eq, bd0_s, bd2_s, un2_eq, un3_eq, un4_eq, un5_eq, un6_eq, cs2_l, cs2_r, mk_1, mk_2, wI_mk, wL_mk, wR_mk, setR_same, setR_setR, rZ_0, rZ_1, rZ_b2, it_b2, it_nb2, it_b21, it_nb21, I_lt, I_le, I_eq, I_div, castI, if_true, if_false, Classical.not_not, gL0, d1, h5, C_isLapsed b1, q, c1]
        rfl) (by
      intro t ⟨Q', ht, b1, b2⟩
      subst ht
      obtain ⟨i1, i2, i3⟩ := hG (N 1).toNat (by omega)
      obtain ⟨⟨d0, d1, -⟩, -⟩ := CP_fr cp wf hl b2 i1.1
      have n1 := OKL_n i1 (j := 1) (by omega)
      have h5 : (hourG N (N 1).toNat 1 ≤ ((N 1).toNat : Int)) := by omega
      refine ⟨mk Q' w rf, ?_, Q', rfl, b1, b2⟩
      simp (disch := first | assumption | omega) only [fX3_passHour_L2, I_lit, orb_I, I_add, I_sub, I_mul, I_neg, nm_eq, bd0_s, bd2_s, un2_eq, un3_eq, un4_eq, un5_eq, un6_eq, cs2_l, cs2_r, mk_1, mk_2, wI_mk, wL_mk, wR_mk, setR_same, setR_setR, rZ_0, rZ_1, rZ_b2, it_b2, it_nb2, it_b21, it_nb21, I_lt, I_le, I_eq, I_div, castI, if_true, if_false, Classical.not_not, gL0, d1, h5])
  obtain ⟨i1, i2, i3⟩ := hG (N 1).toNat (by omega)
  have hb := i1.2.1.1
  have j0 : OKL N (updf (hourG N (N 1).toNat) 103 0) := OKL_upd wf i1 (Or.inr rfl) (by omega)
  unfold hourA
  generalize hA : hourG N (N 1).toNat = A at *
  have a0 : A 0 = N 0 := OKL_n i1 (by omega)
  have a01 : A 1 = N 1 := OKL_n i1 (by omega)
  have r1 := CL_f3 (v := 0) a1 (by omega) (by omega)
  have fr1 : FrL l Q (setR Q1 l (updf (Q1 l) 3 0)) := FrL_set a2 (by omega)
  have hc : setR Q1 l (updf (Q1 l) 3 0) l 1 = A 102 := by
    rw [r1.1.1, updf_ne (by omega)]
  have e3 : A 102 - A 102 / 24 * 24 = A 102 % 24 := by omega
  unfold restA
  rw [a0, ← i2]
  by_cases h : A 102 % 24 = 23
  · rw [ii_t h]
    obtain ⟨τ, h2, Q3, rfl, b1, b2⟩ := loop_inv (f := fX3_passHour_L51 S l) (m := 1000) (s := (I 0, mk (setR Q1 l (updf (Q1 l) 3 0)) w rf)) (fun k s => ∃ Q', s = (I k, mk Q' w rf) ∧ CL l Q' (fondG (updf A 103 0) k) ∧ FrL l Q Q') (fun r => ∃ Q', r = mk Q' w rf ∧ CL l Q' (fondG (updf A 103 0) (N 0).toNat) ∧ FrL l Q Q') (N 0).toNat (by omega) ⟨_, rfl, r1, fr1⟩ (by
        intro k t hk ⟨Q', ht, b1, b2⟩
        subst ht
        left
        have i := OKL_fond wf j0 k (by omega)
        have cp' := CP_fr cp wf hl b2 i.1
        have n0 := OKL_n i (j := 0) (by omega)
        have n1 := OKL_n i (j := 1) (by omega)
        have h6 := i.2.1.2.1 k (by omega) (by omega)
        have h7 := C_fondNextDay (S := S) (w := w) (p := k) (v := fondG (updf A 103 0) k (105 + k)) hS hr isPar67 (OKL_wf wf i) cp' (by omega) h6
        obtain ⟨⟨d0, d1, -⟩, -⟩ := cp'
        have b1' := b1
        obtain ⟨-, clp, -⟩ := b1'
        obtain ⟨e1, e2⟩ := clp k (by omega) (by omega)
        have h5 : ¬ (fondG (updf A 103 0) k 0 ≤ (k : Int)) := by omega
        refine ⟨(I ((k + 1 : Nat) : Int), mk _ w rf), ?_, _, rfl, CL_u1 (z := k) (v := fndA (fondG (updf A 103 0) k) k (fondG (updf A 103 0) k (105 + k))) b1 (by omega) (by omega) (by omega), FrL_set b2 (by omega)⟩
        simp (disch := first | assumption | omega) only [fX3_passHour_L51, I_lit, orb_I, I_add, I_sub, I_mul, I_neg, nm_eq, bd0_s, bd2_s, un2_eq, un3_eq, un4_eq, un5_eq, un6_eq, cs2_l, cs2_r, mk_1, mk_2, wI_mk, wL_mk, wR_mk, setR_same, setR_setR, rZ_0, rZ_1, rZ_b2, it_b2, it_nb2, it_b21, it_nb21, I_lt, I_le, I_eq, I_div, castI, if_true, if_false, Classical.not_not, gL0, d0, h5, gL4, ldL1, e1, h7, stL1]
        rfl) (by
        intro t ⟨Q', ht, b1, b2⟩
        subst ht
        have i := OKL_fond wf j0 (N 0).toNat (by omega)
        obtain ⟨⟨d0, d1, -⟩, -⟩ := CP_fr cp wf hl b2 i.1
        have n0 := OKL_n i (j := 0) (by omega)
        have h5 : (fondG (updf A 103 0) (N 0).toNat 0 ≤ ((N 0).toNat : Int)) := by omega
        refine ⟨mk Q' w rf, ?_, Q', rfl, b1, b2⟩
        simp (disch := first | assumption | omega) only [fX3_passHour_L51, I_lit, orb_I, I_add, I_sub, I_mul, I_neg, nm_eq, bd0_s, bd2_s, un2_eq, un3_eq, un4_eq, un5_eq, un6_eq, cs2_l, cs2_r, mk_1, mk_2, wI_mk, wL_mk, wR_mk, setR_same, setR_setR, rZ_0, rZ_1, rZ_b2, it_b2, it_nb2, it_b21, it_nb21, I_lt, I_le, I_eq, I_div, castI, if_true, if_false, Classical.not_not, gL0, d0, h5])
    have i := OKL_fond wf j0 (N 0).toNat (by omega)
    have n0 := OKL_n i (j := 0) (by omega)
    have n1 := OKL_n i (j := 1) (by omega)
    have f2 : fondG (updf A 103 0) (N 0).toNat 102 = A 102 := by rw [fondG_ne (by omega), updf_ne (by omega)]
    have c2 : Q3 l 1 = A 102 := by rw [b1.1.1, f2]
    refine ⟨_, ?_, CL_f1 (v := A 102 + 1) b1 (by omega) (by omega), FrL_set b2 (by omega)⟩
    have hc' : updf (Q1 l) 3 0 1 = A 102 := by rw [setR_same] at hc; exact hc
    simp only [fX3_passHour, h1]
    simp (disch := first | assumption | omega) only [I_lit, orb_I, I_add, I_sub, I_mul, I_neg, nm_eq, bd0_s, bd2_s, un2_eq, un3_eq, un4_eq, un5_eq, un6_eq, cs2_l, cs2_r, mk_1, mk_2, wI_mk, wL_mk, wR_mk, setR_same, setR_setR, rZ_0, rZ_1, rZ_b2, it_b2, it_nb2, it_b21, it_nb21, I_lt, I_le, I_eq, I_div, castI, if_true, if_false, Classical.not_not, hc', e3, h, not_true, h2, fX3_passHour_b88, c2]
  · rw [ii_f h]
    have hc' : updf (Q1 l) 3 0 1 = A 102 := by rw [setR_same] at hc; exact hc
    have r2 := CL_f1 (v := A 102 + 1) r1 (by rw [updf_ne (by omega)]; omega) (by rw [updf_ne (by omega)]; omega)
    rw [setR_same, setR_setR] at r2
    refine ⟨_, ?_, r2, FrL_set a2 (by omega)⟩
    simp only [fX3_passHour, h1]
    simp (disch := first | assumption | omega) only [I_lit, orb_I, I_add, I_sub, I_mul, I_neg, nm_eq, bd0_s, bd2_s, un2_eq, un3_eq, un4_eq, un5_eq, un6_eq, cs2_l, cs2_r, mk_1, mk_2, wI_mk, wL_mk, wR_mk, setR_same, setR_setR, rZ_0, rZ_1, rZ_b2, it_b2, it_nb2, it_b21, it_nb21, I_lt, I_le, I_eq, I_div, castI, if_true, if_false, Classical.not_not, hc', e3, h, not_false_eq_true, fX3_passHour_b88]
