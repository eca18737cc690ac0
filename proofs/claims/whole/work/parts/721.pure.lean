theorem INV_new {Q Q' : Nat → Int → Int} {w : Nat → Nat → Int64} {rf rf' : Nat → Nat → Option Nat} {R R' : Nat → Int → Int} {v : Nat → Nat → Int64} (inv : INV Q w rf R v) (hq : ∀ a, KQ a → (a < 104 ∨ 185 < a) → Q' a = Q a) (h65 : Q' 65 1 = Q 65 1) (h189 : Q' 189 4 = Q 189 4) (hrf : ∀ a j, a ≠ 121 → rf' a j = rf a j) (hm : ∀ a, KM a → a ≠ 66 → a ≠ 69 → R' a = R a) (h64 : ∀ j, K64 j → j ≠ 23 → R' 64 j = R 64 j) (agP : AgP (R 66) (R' 66)) (agS : AgS (R 66) (R' 66)) (lo' : LOK (R' 66)) (cl' : CL 104 Q' (R' 66)) (ur' : UR Q' rf' (R' 64 23) (R' 66) (R' 69)) : INV Q' w rf' R' v := by
  obtain ⟨ta, ⟨wf, cp, nam⟩, ⟨lo, cl⟩, ur, fa, wk, ro, se, im, sw⟩ := inv
  unfold KQ at hq
  unfold KM at hm
  unfold K64 at h64
  have e1 : rf' 198 = rf 198 := funext (fun j => hrf 198 j (by omega))
  have e2 : rf' 202 = rf 202 := funext (fun j => hrf 202 j (by omega))
  have e3 : rf' 238 = rf 238 := funext (fun j => hrf 238 j (by omega))
  have e4 : rf' 268 = rf 268 := funext (fun j => hrf 268 j (by omega))
  refine ⟨?_, ⟨?_, ?_, ?_⟩, ⟨lo', cl'⟩, ur', ?_, ?_, ?_, ?_, ?_, ?_⟩
  · rw [hq 66 (by omega) (by omega), h65, h64 2 (by omega) (by omega), hm 65 (by omega) (by omega) (by omega)]; exact ta
  · exact WFP_ag wf agP
  · have cq := CP_q (Q' := Q') cp (fun a h1 h2 => hq a (by omega) (by omega))
    exact CP_fr cq wf isLife104 (FrL_refl 104 Q') agP
  · unfold namR
    rw [agP 0 (by omega), agP 1 (by omega), agP 2 (by omega)]
    exact nam
  · rw [hq 64 (by omega) (by omega), h64 10 (by omega) (by omega)]; exact fa
  · rw [h189, hq 192 (by omega) (by omega), h64 28 (by omega) (by omega), hm 77 (by omega) (by omega) (by omega)]; exact wk
  · rw [hq 193 (by omega) (by omega), h64 37 (by omega) (by omega), hm 80 (by omega) (by omega) (by omega)]; exact ro
  · rw [e1, hq 199 (by omega) (by omega), hq 200 (by omega) (by omega), hq 197 (by omega) (by omega)]
    exact senR_ag se agS
  · rw [hm 68 (by omega) (by omega) (by omega), hm 74 (by omega) (by omega) (by omega)]
    exact imgR_q im (fun a h => hq a (by omega) (by omega)) (fun a h => rfl) e3 e4
  · rw [e1, e2, e3, e4]; exact sw
theorem hours_ok {S S' : Nat → Nat × Nat} {Q : Nat → Int → Int} {w : Nat → Nat → Int64} {rf : Nat → Nat → Option Nat} {R : Nat → Int → Int} {v : Nat → Nat → Int64} {rm : Nat → Nat → Option Nat} {n : Int} (hS : SCok S) (hS' : SMok S') (hr : RCok rf) (hr' : RMok rm) (inv : INV Q w rf R v) (hn : 1 ≤ n ∧ n ≤ 60) (hh : R 66 102 < 600) : ∃ Q' rf' Q1 rf1 R', fX9_keep S (mk Q w rf) 120 104 = some (mk Q1 w rf1) ∧ fX3_passHours S (mk Q1 w rf1) 104 (I (min n (600 - R 66 102))) = some (mk Q' w rf') ∧ RCok rf1 ∧ (∃ R1, fX13_snap S' (mk R v rm) 64 = some (mk R1 v rm) ∧ fX13_passHours S' (mk R1 v rm) 64 (I n) = some (I (min n (600 - R 66 102)), mk R' v rm)) ∧ INV Q' w rf' R' v ∧ RCok rf' ∧ R' 64 32 = R 64 32 ∧ R' 78 = R 78 := by
  have inv' := inv
  obtain ⟨ta, ⟨wf, cp, nam⟩, ⟨lo, cl⟩, ur, fa, wk, ro, se, im, sw⟩ := inv
  have hb := lo.1.1
  have w8 := W8_of wf lo.2
  obtain ⟨Q1, rf1, k1, k2, k3, k4, k5⟩ := C_keep (w := w) hS hr wf cl lo ur
  have hr1 : RCok rf1 := RCok_of hr (fun a j h => k4 a j h.1)
  have cp1 : CP 67 Q1 (R 66) := CP_q cp (fun a h1 h2 => k3 a (by omega))
  obtain ⟨Q2, c1, c2, c3⟩ := C_passHours (w := w) (n := min n (600 - R 66 102)) hS hr1 isLife104 wf lo.1 w8 cp1 k5 (by omega)
  have ms := M_snap (w := v) hS' hr' rfl ur.2.1
  have ml := M_passHours (S := S') (w := v) (n := n) (R := setR (setR R 69 (snS (R 69) (R 66) (R 64 23))) 64 (updf (R 64) 23 (snn (R 64 23)))) hS' hr' (by rw [setR_ne (by omega), setR_ne (by omega)]; exact wf) (by rw [setR_ne (by omega), setR_ne (by omega)]; exact lo.1) (by rw [setR_ne (by omega), setR_ne (by omega)]; exact w8) (by omega)
  rw [setR_ne (a := 64) (b := 66) (by omega), setR_ne (a := 69) (b := 66) (by omega)] at ml
  generalize hK : (min n (600 - R 66 102)).toNat = K at *
  obtain ⟨j1, j2⟩ := OKL_hoursN wf lo.1 w8 K (by omega)
  refine ⟨Q2, rf1, Q1, rf1, _, k1, c1, hr1, ⟨_, ms, ml⟩, ?_, hr1, ?_, ?_⟩
  · refine INV_new inv' ?_ ?_ ?_ k4 ?_ ?_ ?_ ?_ ?_ ?_ ?_
    · intro a ha ha2
      rw [c3 a (by omega), k3 a (by unfold KQ at ha; omega)]
    · rw [c3 65 (by omega), k3 65 (by omega)]
    · rw [c3 189 (by omega), k3 189 (by omega)]
    · intro a ha h1 h2
      unfold KM at ha
      rw [setR_ne h1, setR_ne (by omega), setR_ne h2]
    · intro j hj h1
      unfold K64 at hj
      simp (disch := first | assumption | omega) only [setR_ne, setR_same, updf_ne]
    · rw [setR_same]; exact j1.1
    · rw [setR_same]; exact AgS_hoursN wf lo.1 w8 K (by omega)
    · rw [setR_same]; exact LOK_hoursN wf lo K (by omega)
    · rw [setR_same]; exact c2
    · simp (disch := first | assumption | omega) only [setR_ne, setR_same, updf_same]
      exact UR_q k2 wf (fun b hb => c3 b (by omega)) rfl j1.1
  · simp (disch := first | assumption | omega) only [setR_ne, setR_same, updf_ne]
  · simp (disch := first | assumption | omega) only [setR_ne]
theorem op_hours {S S' : Nat → Nat × Nat} (hS : SCok S) (hS' : SMok S') (a1 : Int32) : OpC1 (fun σ => fX12_hours S σ 64 a1) (fun σ => fX13_hours S' σ 64 a1) := by
  intro t σC σM ⟨Q, w, rf, R, v, rm, q1, q2, hr, hr', inv, tx⟩; subst q1; subst q2
  obtain ⟨n, rfl, hn⟩ := exI a1
  have inv0 := INV_th inv
  have r66 : th0 R 66 = R 66 := th0_ne (by omega)
  have hb := inv.2.2.1.1.1.1
  have c102 := inv.2.2.1.2.1.1
  have c2 := C_isFrom (S := S) (σ := mk Q w rf) (v := n) (a := 1) (b := 60) hn (by omega) (by omega)
  have m2 := M_isIn (S := S') (σ := mk (th0 R) v rm) (v := n) (a := 1) (b := 60) hn (by omega) (by omega)
  by_cases h : 1 ≤ n ∧ n ≤ 60
  · rw [b2_t h] at c2 m2
    by_cases h6 : R 66 102 = 600
    · refine ⟨I 0, mk Q w rf, mk (th0 R) v rm, ?_, ?_, Q, w, rf, th0 R, v, rm, rfl, rfl, hr, hr', inv0, tx0 tx⟩
      · have e : min n (600 - R 66 102) = 0 := by omega
        simp (disch := first | assumption | omega) only [fX12_hours, fX12_hours_b44, I_lit, orb_I, I_add, I_sub, I_mul, I_neg, nm_eq, bd0_s, bd2_s, un2_eq, un3_eq, un4_eq, un5_eq, un6_eq, cs2_l, cs2_r, mk_1, mk_2, wI_mk, wL_mk, wR_mk, setR_same, setR_setR, rZ_0, rZ_1, rZ_b2, it_b2, it_nb2, it_b21, it_nb21, I_lt, I_le, I_eq, I_div, castI, if_true, if_false, Classical.not_not, c2, Int.reduceEq, not_false_eq_true, gC64_4, fX3_hoursOf, c102, mnI_I, e]
        rfl
      · simp only [fX13_hours, th0_I]
        simp (disch := first | assumption | omega) only [I_lit, orb_I, I_add, I_sub, I_mul, I_neg, nm_eq, bd0_s, bd2_s, un2_eq, un3_eq, un4_eq, un5_eq, un6_eq, cs2_l, cs2_r, mk_1, mk_2, wI_mk, wL_mk, wR_mk, setR_same, setR_setR, rZ_0, rZ_1, rZ_b2, it_b2, it_nb2, it_b21, it_nb21, I_lt, I_le, I_eq, I_div, castI, if_true, if_false, Classical.not_not, m2, Int.reduceEq, not_false_eq_true, gM14, ldM66, r66, h6, not_true]
    · obtain ⟨Q', rf', Q1, rf1, R', k1, k2, k3, ⟨R1, k4, k5⟩, k6, k7, k8, k9⟩ := hours_ok (S := S) (S' := S') (R := th0 R) (n := n) hS hS' hr hr' inv0 h (by rw [r66]; omega)
      rw [r66] at k2 k5
      refine ⟨I (min n (600 - R 66 102)), mk Q' w rf', mk R' v rm, ?_, ?_, Q', w, rf', R', v, rm, rfl, rfl, k7, hr', k6, ?_⟩
      · have e : ¬ (min n (600 - R 66 102) ≤ 0) := by omega
        simp (disch := first | assumption | omega) only [fX12_hours, fX12_hours_b44, I_lit, orb_I, I_add, I_sub, I_mul, I_neg, nm_eq, bd0_s, bd2_s, un2_eq, un3_eq, un4_eq, un5_eq, un6_eq, cs2_l, cs2_r, mk_1, mk_2, wI_mk, wL_mk, wR_mk, setR_same, setR_setR, rZ_0, rZ_1, rZ_b2, it_b2, it_nb2, it_b21, it_nb21, I_lt, I_le, I_eq, I_div, castI, if_true, if_false, Classical.not_not, c2, Int.reduceEq, not_false_eq_true, gC64_4, gC64_6, fX3_hoursOf, c102, mnI_I, e, k1, k2]
      · simp only [fX13_hours, th0_I]
        simp (disch := first | assumption | omega) only [I_lit, orb_I, I_add, I_sub, I_mul, I_neg, nm_eq, bd0_s, bd2_s, un2_eq, un3_eq, un4_eq, un5_eq, un6_eq, cs2_l, cs2_r, mk_1, mk_2, wI_mk, wL_mk, wR_mk, setR_same, setR_setR, rZ_0, rZ_1, rZ_b2, it_b2, it_nb2, it_b21, it_nb21, I_lt, I_le, I_eq, I_div, castI, if_true, if_false, Classical.not_not, m2, Int.reduceEq, not_false_eq_true, gM14, ldM66, r66, h6, k4, k5]
      · rw [k8, k9]; exact tx0 tx
  · rw [b2_f h] at c2 m2
    refine ⟨I (-1), mk Q w rf, mk (th0 R) v rm, ?_, ?_, Q, w, rf, th0 R, v, rm, rfl, rfl, hr, hr', inv0, tx0 tx⟩
    · simp (disch := first | assumption | omega) only [fX12_hours, fX12_hours_b44, I_lit, orb_I, I_add, I_sub, I_mul, I_neg, nm_eq, bd0_s, bd2_s, un2_eq, un3_eq, un4_eq, un5_eq, un6_eq, cs2_l, cs2_r, mk_1, mk_2, wI_mk, wL_mk, wR_mk, setR_same, setR_setR, rZ_0, rZ_1, rZ_b2, it_b2, it_nb2, it_b21, it_nb21, I_lt, I_le, I_eq, I_div, castI, if_true, if_false, Classical.not_not, c2, Int.reduceEq, not_true]
    · simp only [fX13_hours, th0_I]
      simp (disch := first | assumption | omega) only [I_lit, orb_I, I_add, I_sub, I_mul, I_neg, nm_eq, bd0_s, bd2_s, un2_eq, un3_eq, un4_eq, un5_eq, un6_eq, cs2_l, cs2_r, mk_1, mk_2, wI_mk, wL_mk, wR_mk, setR_same, setR_setR, rZ_0, rZ_1, rZ_b2, it_b2, it_nb2, it_b21, it_nb21, I_lt, I_le, I_eq, I_div, castI, if_true, if_false, Classical.not_not, m2, Int.reduceEq, not_true]
theorem op_undo {S S' : Nat → Nat × Nat} (hS : SCok S) (hS' : SMok S') : OpC1 (fun σ => fX12_undo S σ 64) (fun σ => fX13_undo S' σ 64) := by
  intro t σC σM ⟨Q, w, rf, R, v, rm, q1, q2, hr, hr', inv, tx⟩; subst q1; subst q2
  have inv0 := INV_th inv
  have r66 : th0 R 66 = R 66 := th0_ne (by omega)
  have r23 : th0 R 64 23 = R 64 23 := th0_64 (by omega)
  have inv' := inv0
  obtain ⟨ta, ⟨wf, cp, nam⟩, ⟨lo, cl⟩, ur, -⟩ := inv0
  have ur' := ur
  obtain ⟨u1, u2, L, u3, u4, u5⟩ := ur
  by_cases h : R 64 23 = 0
  · refine ⟨I (-1), mk Q w rf, mk (th0 R) v rm, ?_, ?_, Q, w, rf, th0 R, v, rm, rfl, rfl, hr, hr', inv', tx0 tx⟩
    · simp (disch := first | assumption | omega) only [fX12_undo, fX9_takeBack, I_lit, orb_I, I_add, I_sub, I_mul, I_neg, nm_eq, bd0_s, bd2_s, un2_eq, un3_eq, un4_eq, un5_eq, un6_eq, cs2_l, cs2_r, mk_1, mk_2, wI_mk, wL_mk, wR_mk, setR_same, setR_setR, rZ_0, rZ_1, rZ_b2, it_b2, it_nb2, it_b21, it_nb21, I_lt, I_le, I_eq, I_div, castI, if_true, if_false, Classical.not_not, gC64_6, gC64_4, u1, r23, h, not_true]
    · simp only [fX13_undo, th0_I]
      simp (disch := first | assumption | omega) only [I_lit, orb_I, I_add, I_sub, I_mul, I_neg, nm_eq, bd0_s, bd2_s, un2_eq, un3_eq, un4_eq, un5_eq, un6_eq, cs2_l, cs2_r, mk_1, mk_2, wI_mk, wL_mk, wR_mk, setR_same, setR_setR, rZ_0, rZ_1, rZ_b2, it_b2, it_nb2, it_b21, it_nb21, I_lt, I_le, I_eq, I_div, castI, if_true, if_false, Classical.not_not, r23, h, not_true]
  · generalize hn : R 64 23 = n at *
    rw [r23] at u1 u2 u5
    have s121 : (S 121).2 = 8 := hS.2.2.2.2.2.2.2.2.2.2.2.2.2.2.2.2.2.2.2.2.2.2.2.2.2.2.2
    obtain ⟨b1, b2⟩ := u3 (n - 1).toNat (by omega)
    obtain ⟨d1, d2⟩ := u5 (n - 1).toNat (by omega)
    have e1 : (((n - 1).toNat : Nat) : Int) = n - 1 := by omega
    rw [e1] at d1 d2
    have hl := isUndo_life b2
    have hne := isUndo_104 b2
    have hrr : 122 ≤ L (n - 1).toNat ∧ L (n - 1).toNat ≤ 178 := by unfold isUndo at b2; omega
    generalize hR : setR (th0 R) 64 (updf (th0 R 64) 23 (n - 1)) = R1
    have R1_66 : R1 66 = R 66 := by rw [← hR, setR_ne (by omega), r66]
    have R1_69 : R1 69 = R 69 := by rw [← hR, setR_ne (by omega), th0_ne (by omega)]
    have R1_23 : R1 64 23 = n - 1 := by rw [← hR, setR_same, updf_same rfl]
    have l1 := loop_seq (f := fX13_undo_L26 S' 64) (m := 1000) (fun k => (I k, mk (setR R1 66 (cpf (R1 66) (R1 69) 102 (39 * (n - 1)) k)) v rm)) 39 (r := mk (setR R1 66 (cpf (R1 66) (R1 69) 102 (39 * (n - 1)) 39)) v rm) (by omega) (by
      intro k hk
      have h5 : ¬ ((39 : Int) ≤ (k : Int)) := by omega
      simp (disch := first | assumption | omega) only [fX13_undo_L26, I_lit, orb_I, I_add, I_sub, I_mul, I_neg, nm_eq, bd0_s, bd2_s, un2_eq, un3_eq, un4_eq, un5_eq, un6_eq, cs2_l, cs2_r, mk_1, mk_2, wI_mk, wL_mk, wR_mk, setR_same, setR_setR, rZ_0, rZ_1, rZ_b2, it_b2, it_nb2, it_b21, it_nb21, I_lt, I_le, I_eq, I_div, castI, if_true, if_false, Classical.not_not, gM14, gM17, ldM69, stM66, setR_ne, h5, R1_23]
      rw [cpf_succ (by omega) (by omega) rfl]
      rfl) (by
      simp (disch := first | assumption | omega) only [fX13_undo_L26, I_lit, orb_I, I_add, I_sub, I_mul, I_neg, nm_eq, bd0_s, bd2_s, un2_eq, un3_eq, un4_eq, un5_eq, un6_eq, cs2_l, cs2_r, mk_1, mk_2, wI_mk, wL_mk, wR_mk, setR_same, setR_setR, rZ_0, rZ_1, rZ_b2, it_b2, it_nb2, it_b21, it_nb21, I_lt, I_le, I_eq, I_div, castI, if_true, if_false, Classical.not_not]
      rfl)
    have e0 : ((I ((0 : Nat) : Int)), mk (setR R1 66 (cpf (R1 66) (R1 69) 102 (39 * (n - 1)) ((0 : Nat) : Int))) v rm) = (I 0, mk R1 v rm) := by
      rw [show ((0 : Nat) : Int) = 0 from rfl, cpf_0, setR_id]
    simp only [e0] at l1
    have wn0 := wf.1
    have wn1 := wf.2.1
    rw [r66] at wn0 wn1
    have ag1 : AgL (snN (R 66) (R 69) (n - 1)) (cpf (R 66) (R 69) 102 (39 * (n - 1)) 39) := by
      intro j hj
      by_cases h1 : j < 102
      · rw [sn_lt h1, cpf_out (by omega)]
      · rw [sn_ge (by omega), cpf_in (by omega) rfl]
    have r69 : th0 R 69 = R 69 := th0_ne (by omega)
    rw [r66, r69] at d1 d2
    have n0 : snN (R 66) (R 69) (n - 1) 0 = R 66 0 := sn_lt (by omega)
    have n1 : snN (R 66) (R 69) (n - 1) 1 = R 66 1 := sn_lt (by omega)
    have fr := FrL_cp (l := 104) (l' := L (n - 1).toNat) (Q := setR Q 120 (updf (Q 120) 1 (n - 1)))
    have agP : AgP (R 66) (cpf (R 66) (R 69) 102 (39 * (n - 1)) 39) := fun j hj => cpf_out (by omega)
    refine ⟨I (n - 1), mk (cpLife 104 (L (n - 1).toNat) (setR Q 120 (updf (Q 120) 1 (n - 1)))) w rf, mk (setR R1 66 (cpf (R1 66) (R1 69) 102 (39 * (n - 1)) 39)) v rm, ?_, ?_, _, w, rf, _, v, rm, rfl, rfl, hr, hr', ?_, ?_⟩
    · simp (disch := first | assumption | omega) only [fX12_undo, fX9_takeBack, I_lit, orb_I, I_add, I_sub, I_mul, I_neg, nm_eq, bd0_s, bd2_s, un2_eq, un3_eq, un4_eq, un5_eq, un6_eq, cs2_l, cs2_r, mk_1, mk_2, wI_mk, wL_mk, wR_mk, setR_same, setR_setR, rZ_0, rZ_1, rZ_b2, it_b2, it_nb2, it_b21, it_nb21, I_lt, I_le, I_eq, I_div, castI, if_true, if_false, Classical.not_not, gC64_6, gC64_4, u1, r23, h, gC120_0, updf_same, not_false_eq_true]
      rw [ldR_mk s121 (by omega) (by omega) b1, C_copyLife hS hr isLife104 hl (fun h => hne h.symm)]
      simp (disch := first | assumption | omega) only [I_lit, orb_I, I_add, I_sub, I_mul, I_neg, nm_eq, bd0_s, bd2_s, un2_eq, un3_eq, un4_eq, un5_eq, un6_eq, cs2_l, cs2_r, mk_1, mk_2, wI_mk, wL_mk, wR_mk, setR_same, setR_setR, rZ_0, rZ_1, rZ_b2, it_b2, it_nb2, it_b21, it_nb21, I_lt, I_le, I_eq, I_div, castI, if_true, if_false, Classical.not_not]
      rw [fr 120 (by omega), setR_same, updf_same rfl]
    · simp only [fX13_undo, th0_I]
      simp (disch := first | assumption | omega) only [I_lit, orb_I, I_add, I_sub, I_mul, I_neg, nm_eq, bd0_s, bd2_s, un2_eq, un3_eq, un4_eq, un5_eq, un6_eq, cs2_l, cs2_r, mk_1, mk_2, wI_mk, wL_mk, wR_mk, setR_same, setR_setR, rZ_0, rZ_1, rZ_b2, it_b2, it_nb2, it_b21, it_nb21, I_lt, I_le, I_eq, I_div, castI, if_true, if_false, Classical.not_not, r23, h, not_false_eq_true, hR, l1]
      rw [setR_ne (by omega), R1_23]
    · refine INV_new inv' ?_ ?_ ?_ (fun a j h => rfl) ?_ ?_ ?_ ?_ ?_ ?_ ?_
      · intro a ha ha2
        rw [fr a (by omega), setR_ne (by omega)]
      · rw [fr 65 (by omega), setR_ne (by omega)]
      · rw [fr 189 (by omega), setR_ne (by omega)]
      · intro a ha h1 h2
        unfold KM at ha
        rw [setR_ne h1, ← hR, setR_ne (by omega)]
      · intro j hj h1
        rw [setR_ne (by omega), ← hR, setR_same, updf_ne h1]
      · rw [setR_same, R1_66, R1_69, r66]; exact agP
      · rw [setR_same, R1_66, R1_69, r66]; exact fun j hj => cpf_out (by omega)
      · rw [setR_same, R1_66, R1_69]; exact LOK_ag d2 (by omega) ag1
      · rw [setR_same, R1_66, R1_69]
        refine CL_cp ?_ ?_ (CL_ag ag1 (by omega) (by omega) (CL_q d1 (fun a h1 h2 => setR_ne (by omega))))
        · rw [cpf_out (by omega)]; omega
        · rw [cpf_out (by omega)]; omega
      · rw [setR_same, setR_ne (by omega), setR_ne (by omega), R1_66, R1_69, R1_23]
        refine ⟨?_, by omega, L, u3, u4, ?_⟩
        · rw [fr 120 (by omega), setR_same, updf_same rfl]
        · intro i hi
          obtain ⟨v1, v2⟩ := u5 i (by omega)
          rw [r66, r69] at v1 v2
          have hui := (u3 i (by omega)).2
          have hri : 122 ≤ L i ∧ L i ≤ 178 := by unfold isUndo at hui; omega
          have ag' : AgL (snN (R 66) (R 69) i) (snN (cpf (R 66) (R 69) 102 (39 * (n - 1)) 39) (R 69) i) := by
            intro j hj
            by_cases h1 : j < 102
            · rw [sn_lt h1, sn_lt h1, cpf_out (by omega)]
            · rw [sn_ge (by omega), sn_ge (by omega)]
          have n0' : snN (R 66) (R 69) (i : Int) 0 = R 66 0 := sn_lt (by omega)
          have n1' : snN (R 66) (R 69) (i : Int) 1 = R 66 1 := sn_lt (by omega)
          refine ⟨CL_ag ag' (by omega) (by omega) (CL_q v1 (fun a h1 h2 => ?_)), LOK_ag v2 (by omega) ag'⟩
          rw [fr a (by omega), setR_ne (by omega)]
    · simp (disch := first | assumption | omega) only [setR_ne]
      rw [← hR]
      simp (disch := first | assumption | omega) only [setR_ne, setR_same, updf_ne]
      exact tx0 tx
