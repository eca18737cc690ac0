theorem op_turn {S S' : Nat → Nat × Nat} (hS : SCok S) (hS' : SMok S') (a1 : Int32) : OpC1 (fun σ => fX12_turn S σ 64 a1) (fun σ => fX13_turn S' σ 64 a1) := by
  intro t σC σM ⟨Q, w, rf, R, v, rm, q1, q2, hr, hr', inv, tx⟩
  subst q1
  subst q2
  obtain ⟨p, rfl, hp⟩ := exI a1
  have inv0 := INV_th inv
  have r66 : th0 R 66 = R 66 := th0_ne (by omega)
  have c1 := C_hasPerson (S := S) (w := w) hS hr inv.2.1.1 inv.2.1.2.1 hp
  have m1 := M_isPerson (S := S') (w := v) (R := th0 R) hS' hr' inv0.2.1.1 hp
  rw [r66] at m1
  by_cases h : 0 ≤ p ∧ p < R 66 0
  · rw [b2_t h] at c1 m1
    obtain ⟨r, Q', rf', R', e1, e2, e3, e4, e5, e6⟩ := act_ok (a := 0) (who := p) (n := 0) hS hS' hr hr' inv0 (by unfold okA; rw [r66]; omega)
    refine ⟨r, mk Q' w rf', mk R' v rm, ?_, ?_, Q', w, rf', R', v, rm, rfl, rfl, e4, hr', e3, ?_⟩
    · simp (disch := first | assumption | omega) only [fX12_turn, fX12_turn_b22, I_lit, orb_I, I_add, I_sub, I_mul, I_neg, nm_eq, bd0_s, bd2_s, un2_eq, un3_eq, un4_eq, un5_eq, un6_eq, cs2_l, cs2_r, mk_1, mk_2, wI_mk, wL_mk, wR_mk, setR_same, setR_setR, rZ_0, rZ_1, rZ_b2, it_b2, it_nb2, it_b21, it_nb21, I_lt, I_le, I_eq, I_div, castI, if_true, if_false, Classical.not_not, gC64_1, c1, Int.reduceEq, e1]
    · simp only [fX13_turn, fX13_turn_b24, th0_I]
      simp (disch := first | assumption | omega) only [I_lit, orb_I, I_add, I_sub, I_mul, I_neg, nm_eq, bd0_s, bd2_s, un2_eq, un3_eq, un4_eq, un5_eq, un6_eq, cs2_l, cs2_r, mk_1, mk_2, wI_mk, wL_mk, wR_mk, setR_same, setR_setR, rZ_0, rZ_1, rZ_b2, it_b2, it_nb2, it_b21, it_nb21, I_lt, I_le, I_eq, I_div, castI, if_true, if_false, Classical.not_not, m1, Int.reduceEq, e2]
    · rw [e5, e6, th0_64 (by omega), th0_ne (by omega)]; exact tx
  · rw [b2_f h] at c1 m1
    refine ⟨I (-1), mk Q w rf, mk (th0 R) v rm, ?_, ?_, Q, w, rf, th0 R, v, rm, rfl, rfl, hr, hr', inv0, ?_⟩
    · simp (disch := first | assumption | omega) only [fX12_turn, fX12_turn_b22, I_lit, orb_I, I_add, I_sub, I_mul, I_neg, nm_eq, bd0_s, bd2_s, un2_eq, un3_eq, un4_eq, un5_eq, un6_eq, cs2_l, cs2_r, mk_1, mk_2, wI_mk, wL_mk, wR_mk, setR_same, setR_setR, rZ_0, rZ_1, rZ_b2, it_b2, it_nb2, it_b21, it_nb21, I_lt, I_le, I_eq, I_div, castI, if_true, if_false, Classical.not_not, gC64_1, c1, Int.reduceEq]
    · simp only [fX13_turn, fX13_turn_b24, th0_I]
      simp (disch := first | assumption | omega) only [I_lit, orb_I, I_add, I_sub, I_mul, I_neg, nm_eq, bd0_s, bd2_s, un2_eq, un3_eq, un4_eq, un5_eq, un6_eq, cs2_l, cs2_r, mk_1, mk_2, wI_mk, wL_mk, wR_mk, setR_same, setR_setR, rZ_0, rZ_1, rZ_b2, it_b2, it_nb2, it_b21, it_nb21, I_lt, I_le, I_eq, I_div, castI, if_true, if_false, Classical.not_not, m1, Int.reduceEq]
    · rw [th0_64 (by omega), th0_ne (by omega)]; exact tx
theorem op_wake {S S' : Nat → Nat × Nat} (hS : SCok S) (hS' : SMok S') (a1 : Int32) : OpC1 (fun σ => fX12_wake S σ 64 a1) (fun σ => fX13_wake S' σ 64 a1) := by
  intro t σC σM ⟨Q, w, rf, R, v, rm, q1, q2, hr, hr', inv, tx⟩
  subst q1
  subst q2
  obtain ⟨p, rfl, hp⟩ := exI a1
  have inv0 := INV_th inv
  have r66 : th0 R 66 = R 66 := th0_ne (by omega)
  have c1 := C_hasPerson (S := S) (w := w) hS hr inv.2.1.1 inv.2.1.2.1 hp
  have m1 := M_isPerson (S := S') (w := v) (R := th0 R) hS' hr' inv0.2.1.1 hp
  rw [r66] at m1
  by_cases h : 0 ≤ p ∧ p < R 66 0
  · rw [b2_t h] at c1 m1
    obtain ⟨r, Q', rf', R', e1, e2, e3, e4, e5, e6⟩ := act_ok (a := 1) (who := p) (n := 0) hS hS' hr hr' inv0 (by unfold okA; rw [r66]; omega)
    refine ⟨r, mk Q' w rf', mk R' v rm, ?_, ?_, Q', w, rf', R', v, rm, rfl, rfl, e4, hr', e3, ?_⟩
    · simp (disch := first | assumption | omega) only [fX12_wake, fX12_wake_b22, I_lit, orb_I, I_add, I_sub, I_mul, I_neg, nm_eq, bd0_s, bd2_s, un2_eq, un3_eq, un4_eq, un5_eq, un6_eq, cs2_l, cs2_r, mk_1, mk_2, wI_mk, wL_mk, wR_mk, setR_same, setR_setR, rZ_0, rZ_1, rZ_b2, it_b2, it_nb2, it_b21, it_nb21, I_lt, I_le, I_eq, I_div, castI, if_true, if_false, Classical.not_not, gC64_1, c1, Int.reduceEq, e1]
    · simp only [fX13_wake, fX13_wake_b24, th0_I]
      simp (disch := first | assumption | omega) only [I_lit, orb_I, I_add, I_sub, I_mul, I_neg, nm_eq, bd0_s, bd2_s, un2_eq, un3_eq, un4_eq, un5_eq, un6_eq, cs2_l, cs2_r, mk_1, mk_2, wI_mk, wL_mk, wR_mk, setR_same, setR_setR, rZ_0, rZ_1, rZ_b2, it_b2, it_nb2, it_b21, it_nb21, I_lt, I_le, I_eq, I_div, castI, if_true, if_false, Classical.not_not, m1, Int.reduceEq, e2]
    · rw [e5, e6, th0_64 (by omega), th0_ne (by omega)]; exact tx
  · rw [b2_f h] at c1 m1
    refine ⟨I (-1), mk Q w rf, mk (th0 R) v rm, ?_, ?_, Q, w, rf, th0 R, v, rm, rfl, rfl, hr, hr', inv0, ?_⟩
    · simp (disch := first | assumption | omega) only [fX12_wake, fX12_wake_b22, I_lit, orb_I, I_add, I_sub, I_mul, I_neg, nm_eq, bd0_s, bd2_s, un2_eq, un3_eq, un4_eq, un5_eq, un6_eq, cs2_l, cs2_r, mk_1, mk_2, wI_mk, wL_mk, wR_mk, setR_same, setR_setR, rZ_0, rZ_1, rZ_b2, it_b2, it_nb2, it_b21, it_nb21, I_lt, I_le, I_eq, I_div, castI, if_true, if_false, Classical.not_not, gC64_1, c1, Int.reduceEq]
    · simp only [fX13_wake, fX13_wake_b24, th0_I]
      simp (disch := first | assumption | omega) only [I_lit, orb_I, I_add, I_sub, I_mul, I_neg, nm_eq, bd0_s, bd2_s, un2_eq, un3_eq, un4_eq, un5_eq, un6_eq, cs2_l, cs2_r, mk_1, mk_2, wI_mk, wL_mk, wR_mk, setR_same, setR_setR, rZ_0, rZ_1, rZ_b2, it_b2, it_nb2, it_b21, it_nb21, I_lt, I_le, I_eq, I_div, castI, if_true, if_false, Classical.not_not, m1, Int.reduceEq]
    · rw [th0_64 (by omega), th0_ne (by omega)]; exact tx
theorem op_woo {S S' : Nat → Nat × Nat} (hS : SCok S) (hS' : SMok S') (a1 a2 : Int32) : OpC1 (fun σ => fX12_woo S σ 64 a1 a2) (fun σ => fX13_woo S' σ 64 a1 a2) := by
  intro t σC σM ⟨Q, w, rf, R, v, rm, q1, q2, hr, hr', inv, tx⟩
  subst q1
  subst q2
  obtain ⟨p, rfl, hp⟩ := exI a1
  obtain ⟨n, rfl, hn⟩ := exI a2
  have inv0 := INV_th inv
  have r66 : th0 R 66 = R 66 := th0_ne (by omega)
  have c1 := C_hasPerson (S := S) (w := w) hS hr inv.2.1.1 inv.2.1.2.1 hp
  have m1 := M_isPerson (S := S') (w := v) (R := th0 R) hS' hr' inv0.2.1.1 hp
  rw [r66] at m1
  by_cases h : 0 ≤ p ∧ p < R 66 0
  · rw [b2_t h] at c1 m1
    have c2 := C_isFrom (S := S) (σ := mk Q w rf) (v := n) (a := 1) (b := 20) hn (by omega) (by omega)
    have m2 := M_isIn (S := S') (σ := mk (th0 R) v rm) (v := n) (a := 1) (b := 20) hn (by omega) (by omega)
    by_cases h2 : 1 ≤ n ∧ n ≤ 20
    · rw [b2_t h2] at c2 m2
      obtain ⟨r, Q', rf', R', e1, e2, e3, e4, e5, e6⟩ := act_ok (a := 2) (who := p) (n := n) hS hS' hr hr' inv0 (by unfold okA; rw [r66]; omega)
      refine ⟨r, mk Q' w rf', mk R' v rm, ?_, ?_, Q', w, rf', R', v, rm, rfl, rfl, e4, hr', e3, ?_⟩
      · simp (disch := first | assumption | omega) only [fX12_woo, fX12_woo_b31, fX12_woo_b32, I_lit, orb_I, I_add, I_sub, I_mul, I_neg, nm_eq, bd0_s, bd2_s, un2_eq, un3_eq, un4_eq, un5_eq, un6_eq, cs2_l, cs2_r, mk_1, mk_2, wI_mk, wL_mk, wR_mk, setR_same, setR_setR, rZ_0, rZ_1, rZ_b2, it_b2, it_nb2, it_b21, it_nb21, I_lt, I_le, I_eq, I_div, castI, if_true, if_false, Classical.not_not, gC64_1, c1, Int.reduceEq, c2, e1]
      · simp only [fX13_woo, fX13_woo_b33, fX13_woo_b34, th0_I]
        simp (disch := first | assumption | omega) only [I_lit, orb_I, I_add, I_sub, I_mul, I_neg, nm_eq, bd0_s, bd2_s, un2_eq, un3_eq, un4_eq, un5_eq, un6_eq, cs2_l, cs2_r, mk_1, mk_2, wI_mk, wL_mk, wR_mk, setR_same, setR_setR, rZ_0, rZ_1, rZ_b2, it_b2, it_nb2, it_b21, it_nb21, I_lt, I_le, I_eq, I_div, castI, if_true, if_false, Classical.not_not, m1, Int.reduceEq, m2, e2]
      · rw [e5, e6, th0_64 (by omega), th0_ne (by omega)]; exact tx
    · rw [b2_f h2] at c2 m2
      refine ⟨I (-1), mk Q w rf, mk (th0 R) v rm, ?_, ?_, Q, w, rf, th0 R, v, rm, rfl, rfl, hr, hr', inv0, ?_⟩
      · simp (disch := first | assumption | omega) only [fX12_woo, fX12_woo_b31, fX12_woo_b32, I_lit, orb_I, I_add, I_sub, I_mul, I_neg, nm_eq, bd0_s, bd2_s, un2_eq, un3_eq, un4_eq, un5_eq, un6_eq, cs2_l, cs2_r, mk_1, mk_2, wI_mk, wL_mk, wR_mk, setR_same, setR_setR, rZ_0, rZ_1, rZ_b2, it_b2, it_nb2, it_b21, it_nb21, I_lt, I_le, I_eq, I_div, castI, if_true, if_false, Classical.not_not, gC64_1, c1, Int.reduceEq, c2]
      · simp only [fX13_woo, fX13_woo_b33, fX13_woo_b34, th0_I]
        simp (disch := first | assumption | omega) only [I_lit, orb_I, I_add, I_sub, I_mul, I_neg, nm_eq, bd0_s, bd2_s, un2_eq, un3_eq, un4_eq, un5_eq, un6_eq, cs2_l, cs2_r, mk_1, mk_2, wI_mk, wL_mk, wR_mk, setR_same, setR_setR, rZ_0, rZ_1, rZ_b2, it_b2, it_nb2, it_b21, it_nb21, I_lt, I_le, I_eq, I_div, castI, if_true, if_false, Classical.not_not, m1, Int.reduceEq, m2]
      · rw [th0_64 (by omega), th0_ne (by omega)]; exact tx
  · rw [b2_f h] at c1 m1
    refine ⟨I (-1), mk Q w rf, mk (th0 R) v rm, ?_, ?_, Q, w, rf, th0 R, v, rm, rfl, rfl, hr, hr', inv0, ?_⟩
    · simp (disch := first | assumption | omega) only [fX12_woo, fX12_woo_b31, fX12_woo_b32, I_lit, orb_I, I_add, I_sub, I_mul, I_neg, nm_eq, bd0_s, bd2_s, un2_eq, un3_eq, un4_eq, un5_eq, un6_eq, cs2_l, cs2_r, mk_1, mk_2, wI_mk, wL_mk, wR_mk, setR_same, setR_setR, rZ_0, rZ_1, rZ_b2, it_b2, it_nb2, it_b21, it_nb21, I_lt, I_le, I_eq, I_div, castI, if_true, if_false, Classical.not_not, gC64_1, c1, Int.reduceEq]
    · simp only [fX13_woo, fX13_woo_b33, fX13_woo_b34, th0_I]
      simp (disch := first | assumption | omega) only [I_lit, orb_I, I_add, I_sub, I_mul, I_neg, nm_eq, bd0_s, bd2_s, un2_eq, un3_eq, un4_eq, un5_eq, un6_eq, cs2_l, cs2_r, mk_1, mk_2, wI_mk, wL_mk, wR_mk, setR_same, setR_setR, rZ_0, rZ_1, rZ_b2, it_b2, it_nb2, it_b21, it_nb21, I_lt, I_le, I_eq, I_div, castI, if_true, if_false, Classical.not_not, m1, Int.reduceEq]
    · rw [th0_64 (by omega), th0_ne (by omega)]; exact tx
theorem op_tilt {S S' : Nat → Nat × Nat} (hS : SCok S) (hS' : SMok S') (a1 a2 : Int32) : OpC1 (fun σ => fX12_tilt S σ 64 a1 a2) (fun σ => fX13_tilt S' σ 64 a1 a2) := by
  intro t σC σM ⟨Q, w, rf, R, v, rm, q1, q2, hr, hr', inv, tx⟩
  subst q1
  subst q2
  obtain ⟨p, rfl, hp⟩ := exI a1
  obtain ⟨n, rfl, hn⟩ := exI a2
  have inv0 := INV_th inv
  have r66 : th0 R 66 = R 66 := th0_ne (by omega)
  have c1 := C_hasGlass (S := S) (w := w) hS hr inv.2.1.1 inv.2.1.2.1 hp
  have m1 := M_isGlass (S := S') (w := v) (R := th0 R) hS' hr' inv0.2.1.1 hp
  rw [r66] at m1
  by_cases h : 0 ≤ p ∧ p < R 66 1
  · rw [b2_t h] at c1 m1
    have c2 := C_isFrom (S := S) (σ := mk Q w rf) (v := n) (a := 0) (b := 2) hn (by omega) (by omega)
    have m2 := M_isIn (S := S') (σ := mk (th0 R) v rm) (v := n) (a := 0) (b := 2) hn (by omega) (by omega)
    by_cases h2 : 0 ≤ n ∧ n ≤ 2
    · rw [b2_t h2] at c2 m2
      obtain ⟨r, Q', rf', R', e1, e2, e3, e4, e5, e6⟩ := act_ok (a := 3) (who := p) (n := n) hS hS' hr hr' inv0 (by unfold okA; rw [r66]; omega)
      refine ⟨r, mk Q' w rf', mk R' v rm, ?_, ?_, Q', w, rf', R', v, rm, rfl, rfl, e4, hr', e3, ?_⟩
      · simp (disch := first | assumption | omega) only [fX12_tilt, fX12_tilt_b30, fX12_tilt_b31, I_lit, orb_I, I_add, I_sub, I_mul, I_neg, nm_eq, bd0_s, bd2_s, un2_eq, un3_eq, un4_eq, un5_eq, un6_eq, cs2_l, cs2_r, mk_1, mk_2, wI_mk, wL_mk, wR_mk, setR_same, setR_setR, rZ_0, rZ_1, rZ_b2, it_b2, it_nb2, it_b21, it_nb21, I_lt, I_le, I_eq, I_div, castI, if_true, if_false, Classical.not_not, gC64_1, c1, Int.reduceEq, c2, e1]
      · simp only [fX13_tilt, fX13_tilt_b32, fX13_tilt_b33, th0_I]
        simp (disch := first | assumption | omega) only [I_lit, orb_I, I_add, I_sub, I_mul, I_neg, nm_eq, bd0_s, bd2_s, un2_eq, un3_eq, un4_eq, un5_eq, un6_eq, cs2_l, cs2_r, mk_1, mk_2, wI_mk, wL_mk, wR_mk, setR_same, setR_setR, rZ_0, rZ_1, rZ_b2, it_b2, it_nb2, it_b21, it_nb21, I_lt, I_le, I_eq, I_div, castI, if_true, if_false, Classical.not_not, m1, Int.reduceEq, m2, e2]
      · rw [e5, e6, th0_64 (by omega), th0_ne (by omega)]; exact tx
    · rw [b2_f h2] at c2 m2
      refine ⟨I (-1), mk Q w rf, mk (th0 R) v rm, ?_, ?_, Q, w, rf, th0 R, v, rm, rfl, rfl, hr, hr', inv0, ?_⟩
      · simp (disch := first | assumption | omega) only [fX12_tilt, fX12_tilt_b30, fX12_tilt_b31, I_lit, orb_I, I_add, I_sub, I_mul, I_neg, nm_eq, bd0_s, bd2_s, un2_eq, un3_eq, un4_eq, un5_eq, un6_eq, cs2_l, cs2_r, mk_1, mk_2, wI_mk, wL_mk, wR_mk, setR_same, setR_setR, rZ_0, rZ_1, rZ_b2, it_b2, it_nb2, it_b21, it_nb21, I_lt, I_le, I_eq, I_div, castI, if_true, if_false, Classical.not_not, gC64_1, c1, Int.reduceEq, c2]
      · simp only [fX13_tilt, fX13_tilt_b32, fX13_tilt_b33, th0_I]
        simp (disch := first | assumption | omega) only [I_lit, orb_I, I_add, I_sub, I_mul, I_neg, nm_eq, bd0_s, bd2_s, un2_eq, un3_eq, un4_eq, un5_eq, un6_eq, cs2_l, cs2_r, mk_1, mk_2, wI_mk, wL_mk, wR_mk, setR_same, setR_setR, rZ_0, rZ_1, rZ_b2, it_b2, it_nb2, it_b21, it_nb21, I_lt, I_le, I_eq, I_div, castI, if_true, if_false, Classical.not_not, m1, Int.reduceEq, m2]
      · rw [th0_64 (by omega), th0_ne (by omega)]; exact tx
  · rw [b2_f h] at c1 m1
    refine ⟨I (-1), mk Q w rf, mk (th0 R) v rm, ?_, ?_, Q, w, rf, th0 R, v, rm, rfl, rfl, hr, hr', inv0, ?_⟩
    · simp (disch := first | assumption | omega) only [fX12_tilt, fX12_tilt_b30, fX12_tilt_b31, I_lit, orb_I, I_add, I_sub, I_mul, I_neg, nm_eq, bd0_s, bd2_s, un2_eq, un3_eq, un4_eq, un5_eq, un6_eq, cs2_l, cs2_r, mk_1, mk_2, wI_mk, wL_mk, wR_mk, setR_same, setR_setR, rZ_0, rZ_1, rZ_b2, it_b2, it_nb2, it_b21, it_nb21, I_lt, I_le, I_eq, I_div, castI, if_true, if_false, Classical.not_not, gC64_1, c1, Int.reduceEq]
    · simp only [fX13_tilt, fX13_tilt_b32, fX13_tilt_b33, th0_I]
      simp (disch := first | assumption | omega) only [I_lit, orb_I, I_add, I_sub, I_mul, I_neg, nm_eq, bd0_s, bd2_s, un2_eq, un3_eq, un4_eq, un5_eq, un6_eq, cs2_l, cs2_r, mk_1, mk_2, wI_mk, wL_mk, wR_mk, setR_same, setR_setR, rZ_0, rZ_1, rZ_b2, it_b2, it_nb2, it_b21, it_nb21, I_lt, I_le, I_eq, I_div, castI, if_true, if_false, Classical.not_not, m1, Int.reduceEq]
    · rw [th0_64 (by omega), th0_ne (by omega)]; exact tx
theorem op_widen {S S' : Nat → Nat × Nat} (hS : SCok S) (hS' : SMok S') (a1 a2 : Int32) : OpC1 (fun σ => fX12_widen S σ 64 a1 a2) (fun σ => fX13_widen S' σ 64 a1 a2) := by
  intro t σC σM ⟨Q, w, rf, R, v, rm, q1, q2, hr, hr', inv, tx⟩
  subst q1
  subst q2
  obtain ⟨p, rfl, hp⟩ := exI a1
  obtain ⟨n, rfl, hn⟩ := exI a2
  have inv0 := INV_th inv
  have r66 : th0 R 66 = R 66 := th0_ne (by omega)
  have c1 := C_hasGlass (S := S) (w := w) hS hr inv.2.1.1 inv.2.1.2.1 hp
  have m1 := M_isGlass (S := S') (w := v) (R := th0 R) hS' hr' inv0.2.1.1 hp
  rw [r66] at m1
  by_cases h : 0 ≤ p ∧ p < R 66 1
  · rw [b2_t h] at c1 m1
    have c2 := C_isFrom (S := S) (σ := mk Q w rf) (v := n) (a := 1) (b := 8) hn (by omega) (by omega)
    have m2 := M_isIn (S := S') (σ := mk (th0 R) v rm) (v := n) (a := 1) (b := 8) hn (by omega) (by omega)
    by_cases h2 : 1 ≤ n ∧ n ≤ 8
    · rw [b2_t h2] at c2 m2
      obtain ⟨r, Q', rf', R', e1, e2, e3, e4, e5, e6⟩ := act_ok (a := 4) (who := p) (n := n) hS hS' hr hr' inv0 (by unfold okA; rw [r66]; omega)
      refine ⟨r, mk Q' w rf', mk R' v rm, ?_, ?_, Q', w, rf', R', v, rm, rfl, rfl, e4, hr', e3, ?_⟩
      · simp (disch := first | assumption | omega) only [fX12_widen, fX12_widen_b31, fX12_widen_b32, I_lit, orb_I, I_add, I_sub, I_mul, I_neg, nm_eq, bd0_s, bd2_s, un2_eq, un3_eq, un4_eq, un5_eq, un6_eq, cs2_l, cs2_r, mk_1, mk_2, wI_mk, wL_mk, wR_mk, setR_same, setR_setR, rZ_0, rZ_1, rZ_b2, it_b2, it_nb2, it_b21, it_nb21, I_lt, I_le, I_eq, I_div, castI, if_true, if_false, Classical.not_not, gC64_1, c1, Int.reduceEq, c2, e1]
      · simp only [fX13_widen, fX13_widen_b33, fX13_widen_b34, th0_I]
        simp (disch := first | assumption | omega) only [I_lit, orb_I, I_add, I_sub, I_mul, I_neg, nm_eq, bd0_s, bd2_s, un2_eq, un3_eq, un4_eq, un5_eq, un6_eq, cs2_l, cs2_r, mk_1, mk_2, wI_mk, wL_mk, wR_mk, setR_same, setR_setR, rZ_0, rZ_1, rZ_b2, it_b2, it_nb2, it_b21, it_nb21, I_lt, I_le, I_eq, I_div, castI, if_true, if_false, Classical.not_not, m1, Int.reduceEq, m2, e2]
      · rw [e5, e6, th0_64 (by omega), th0_ne (by omega)]; exact tx
    · rw [b2_f h2] at c2 m2
      refine ⟨I (-1), mk Q w rf, mk (th0 R) v rm, ?_, ?_, Q, w, rf, th0 R, v, rm, rfl, rfl, hr, hr', inv0, ?_⟩
      · simp (disch := first | assumption | omega) only [fX12_widen, fX12_widen_b31, fX12_widen_b32, I_lit, orb_I, I_add, I_sub, I_mul, I_neg, nm_eq, bd0_s, bd2_s, un2_eq, un3_eq, un4_eq, un5_eq, un6_eq, cs2_l, cs2_r, mk_1, mk_2, wI_mk, wL_mk, wR_mk, setR_same, setR_setR, rZ_0, rZ_1, rZ_b2, it_b2, it_nb2, it_b21, it_nb21, I_lt, I_le, I_eq, I_div, castI, if_true, if_false, Classical.not_not, gC64_1, c1, Int.reduceEq, c2]
      · simp only [fX13_widen, fX13_widen_b33, fX13_widen_b34, th0_I]
        simp (disch := first | assumption | omega) only [I_lit, orb_I, I_add, I_sub, I_mul, I_neg, nm_eq, bd0_s, bd2_s, un2_eq, un3_eq, un4_eq, un5_eq, un6_eq, cs2_l, cs2_r, mk_1, mk_2, wI_mk, wL_mk, wR_mk, setR_same, setR_setR, rZ_0, rZ_1, rZ_b2, it_b2, it_nb2, it_b21, it_nb21, I_lt, I_le, I_eq, I_div, castI, if_true, if_false, Classical.not_not, m1, Int.reduceEq, m2]
      · rw [th0_64 (by omega), th0_ne (by omega)]; exact tx
  · rw [b2_f h] at c1 m1
    refine ⟨I (-1), mk Q w rf, mk (th0 R) v rm, ?_, ?_, Q, w, rf, th0 R, v, rm, rfl, rfl, hr, hr', inv0, ?_⟩
    · simp (disch := first | assumption | omega) only [fX12_widen, fX12_widen_b31, fX12_widen_b32, I_lit, orb_I, I_add, I_sub, I_mul, I_neg, nm_eq, bd0_s, bd2_s, un2_eq, un3_eq, un4_eq, un5_eq, un6_eq, cs2_l, cs2_r, mk_1, mk_2, wI_mk, wL_mk, wR_mk, setR_same, setR_setR, rZ_0, rZ_1, rZ_b2, it_b2, it_nb2, it_b21, it_nb21, I_lt, I_le, I_eq, I_div, castI, if_true, if_false, Classical.not_not, gC64_1, c1, Int.reduceEq]
    · simp only [fX13_widen, fX13_widen_b33, fX13_widen_b34, th0_I]
      simp (disch := first | assumption | omega) only [I_lit, orb_I, I_add, I_sub, I_mul, I_neg, nm_eq, bd0_s, bd2_s, un2_eq, un3_eq, un4_eq, un5_eq, un6_eq, cs2_l, cs2_r, mk_1, mk_2, wI_mk, wL_mk, wR_mk, setR_same, setR_setR, rZ_0, rZ_1, rZ_b2, it_b2, it_nb2, it_b21, it_nb21, I_lt, I_le, I_eq, I_div, castI, if_true, if_false, Classical.not_not, m1, Int.reduceEq]
    · rw [th0_64 (by omega), th0_ne (by omega)]; exact tx
theorem op_spill {S S' : Nat → Nat × Nat} (hS : SCok S) (hS' : SMok S') (a1 a2 : Int32) : OpC1 (fun σ => fX12_spill S σ 64 a1 a2) (fun σ => fX13_spill S' σ 64 a1 a2) := by
  intro t σC σM ⟨Q, w, rf, R, v, rm, q1, q2, hr, hr', inv, tx⟩
  subst q1
  subst q2
  obtain ⟨p, rfl, hp⟩ := exI a1
  obtain ⟨n, rfl, hn⟩ := exI a2
  have inv0 := INV_th inv
  have r66 : th0 R 66 = R 66 := th0_ne (by omega)
  have c1 := C_hasGlass (S := S) (w := w) hS hr inv.2.1.1 inv.2.1.2.1 hp
  have m1 := M_isGlass (S := S') (w := v) (R := th0 R) hS' hr' inv0.2.1.1 hp
  rw [r66] at m1
  by_cases h : 0 ≤ p ∧ p < R 66 1
  · rw [b2_t h] at c1 m1
    have c2 := C_isFrom (S := S) (σ := mk Q w rf) (v := n) (a := 1) (b := 250) hn (by omega) (by omega)
    have m2 := M_isIn (S := S') (σ := mk (th0 R) v rm) (v := n) (a := 1) (b := 250) hn (by omega) (by omega)
    by_cases h2 : 1 ≤ n ∧ n ≤ 250
    · rw [b2_t h2] at c2 m2
      obtain ⟨r, Q', rf', R', e1, e2, e3, e4, e5, e6⟩ := act_ok (a := 5) (who := p) (n := n) hS hS' hr hr' inv0 (by unfold okA; rw [r66]; omega)
      refine ⟨r, mk Q' w rf', mk R' v rm, ?_, ?_, Q', w, rf', R', v, rm, rfl, rfl, e4, hr', e3, ?_⟩
      · simp (disch := first | assumption | omega) only [fX12_spill, fX12_spill_b32, fX12_spill_b33, I_lit, orb_I, I_add, I_sub, I_mul, I_neg, nm_eq, bd0_s, bd2_s, un2_eq, un3_eq, un4_eq, un5_eq, un6_eq, cs2_l, cs2_r, mk_1, mk_2, wI_mk, wL_mk, wR_mk, setR_same, setR_setR, rZ_0, rZ_1, rZ_b2, it_b2, it_nb2, it_b21, it_nb21, I_lt, I_le, I_eq, I_div, castI, if_true, if_false, Classical.not_not, gC64_1, c1, Int.reduceEq, c2, e1]
      · simp only [fX13_spill, fX13_spill_b34, fX13_spill_b35, th0_I]
        simp (disch := first | assumption | omega) only [I_lit, orb_I, I_add, I_sub, I_mul, I_neg, nm_eq, bd0_s, bd2_s, un2_eq, un3_eq, un4_eq, un5_eq, un6_eq, cs2_l, cs2_r, mk_1, mk_2, wI_mk, wL_mk, wR_mk, setR_same, setR_setR, rZ_0, rZ_1, rZ_b2, it_b2, it_nb2, it_b21, it_nb21, I_lt, I_le, I_eq, I_div, castI, if_true, if_false, Classical.not_not, m1, Int.reduceEq, m2, e2]
      · rw [e5, e6, th0_64 (by omega), th0_ne (by omega)]; exact tx
    · rw [b2_f h2] at c2 m2
      refine ⟨I (-1), mk Q w rf, mk (th0 R) v rm, ?_, ?_, Q, w, rf, th0 R, v, rm, rfl, rfl, hr, hr', inv0, ?_⟩
      · simp (disch := first | assumption | omega) only [fX12_spill, fX12_spill_b32, fX12_spill_b33, I_lit, orb_I, I_add, I_sub, I_mul, I_neg, nm_eq, bd0_s, bd2_s, un2_eq, un3_eq, un4_eq, un5_eq, un6_eq, cs2_l, cs2_r, mk_1, mk_2, wI_mk, wL_mk, wR_mk, setR_same, setR_setR, rZ_0, rZ_1, rZ_b2, it_b2, it_nb2, it_b21, it_nb21, I_lt, I_le, I_eq, I_div, castI, if_true, if_false, Classical.not_not, gC64_1, c1, Int.reduceEq, c2]
      · simp only [fX13_spill, fX13_spill_b34, fX13_spill_b35, th0_I]
        simp (disch := first | assumption | omega) only [I_lit, orb_I, I_add, I_sub, I_mul, I_neg, nm_eq, bd0_s, bd2_s, un2_eq, un3_eq, un4_eq, un5_eq, un6_eq, cs2_l, cs2_r, mk_1, mk_2, wI_mk, wL_mk, wR_mk, setR_same, setR_setR, rZ_0, rZ_1, rZ_b2, it_b2, it_nb2, it_b21, it_nb21, I_lt, I_le, I_eq, I_div, castI, if_true, if_false, Classical.not_not, m1, Int.reduceEq, m2]
      · rw [th0_64 (by omega), th0_ne (by omega)]; exact tx
  · rw [b2_f h] at c1 m1
    refine ⟨I (-1), mk Q w rf, mk (th0 R) v rm, ?_, ?_, Q, w, rf, th0 R, v, rm, rfl, rfl, hr, hr', inv0, ?_⟩
    · simp (disch := first | assumption | omega) only [fX12_spill, fX12_spill_b32, fX12_spill_b33, I_lit, orb_I, I_add, I_sub, I_mul, I_neg, nm_eq, bd0_s, bd2_s, un2_eq, un3_eq, un4_eq, un5_eq, un6_eq, cs2_l, cs2_r, mk_1, mk_2, wI_mk, wL_mk, wR_mk, setR_same, setR_setR, rZ_0, rZ_1, rZ_b2, it_b2, it_nb2, it_b21, it_nb21, I_lt, I_le, I_eq, I_div, castI, if_true, if_false, Classical.not_not, gC64_1, c1, Int.reduceEq]
    · simp only [fX13_spill, fX13_spill_b34, fX13_spill_b35, th0_I]
      simp (disch := first | assumption | omega) only [I_lit, orb_I, I_add, I_sub, I_mul, I_neg, nm_eq, bd0_s, bd2_s, un2_eq, un3_eq, un4_eq, un5_eq, un6_eq, cs2_l, cs2_r, mk_1, mk_2, wI_mk, wL_mk, wR_mk, setR_same, setR_setR, rZ_0, rZ_1, rZ_b2, it_b2, it_nb2, it_b21, it_nb21, I_lt, I_le, I_eq, I_div, castI, if_true, if_false, Classical.not_not, m1, Int.reduceEq]
    · rw [th0_64 (by omega), th0_ne (by omega)]; exact tx
