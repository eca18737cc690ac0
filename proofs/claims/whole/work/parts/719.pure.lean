theorem tx0 {t : Nat × (Int → Int)} {R : Nat → Int → Int} (tx : texR t (R 64 32) (R 78)) : texR t (th0 R 64 32) (th0 R 78) := by
  rw [th0_64 (by omega), th0_ne (by omega)]; exact tx
theorem op_fault {S S' : Nat → Nat × Nat} (hS : SCok S) (hS' : SMok S') : OpC0 (fun σ => fX12_fault S σ 64) (fun σ => fX13_fault S' σ 64) := by
  intro t σC σM ⟨Q, w, rf, R, v, rm, q1, q2, hr, hr', inv, tx⟩; subst q1; subst q2
  have inv0 := INV_th inv
  obtain ⟨ta, pa, li, ur, fa, wk, ro, se, im, sw⟩ := inv
  refine ⟨I (R 64 10), mk (th0 R) v rm, ?_, ?_, Q, w, rf, th0 R, v, rm, rfl, rfl, hr, hr', inv0, tx0 tx⟩
  · simp (disch := first | assumption | omega) only [fX12_fault, I_lit, orb_I, I_add, I_sub, I_mul, I_neg, nm_eq, bd0_s, bd2_s, un2_eq, un3_eq, un4_eq, un5_eq, un6_eq, cs2_l, cs2_r, mk_1, mk_2, wI_mk, wL_mk, wR_mk, setR_same, setR_setR, rZ_0, rZ_1, rZ_b2, it_b2, it_nb2, it_b21, it_nb21, I_lt, I_le, I_eq, I_div, castI, if_true, if_false, Classical.not_not, fa]
  · simp only [fX13_fault, th0_I]
    simp (disch := first | assumption | omega) only [I_lit, orb_I, I_add, I_sub, I_mul, I_neg, nm_eq, bd0_s, bd2_s, un2_eq, un3_eq, un4_eq, un5_eq, un6_eq, cs2_l, cs2_r, mk_1, mk_2, wI_mk, wL_mk, wR_mk, setR_same, setR_setR, rZ_0, rZ_1, rZ_b2, it_b2, it_nb2, it_b21, it_nb21, I_lt, I_le, I_eq, I_div, castI, if_true, if_false, Classical.not_not, th0_64]
theorem op_waking {S S' : Nat → Nat × Nat} (hS : SCok S) (hS' : SMok S') (a1 : Int32) : OpC0 (fun σ => fX12_waking S σ 64 a1) (fun σ => fX13_waking S' σ 64 a1) := by
  intro t σC σM ⟨Q, w, rf, R, v, rm, q1, q2, hr, hr', inv, tx⟩; subst q1; subst q2
  obtain ⟨p, rfl, hp⟩ := exI a1
  have inv0 := INV_th inv
  obtain ⟨ta, pa, li, ur, fa, ⟨wk1, wk2, wk3⟩, ro, se, im, sw⟩ := inv
  have m1 := M_isIn (S := S') (σ := mk (th0 R) v rm) (v := p) (a := 0) (b := R 64 28 - 1) hp (by omega) (by omega)
  by_cases h : 0 ≤ p ∧ p ≤ R 64 28 - 1
  · rw [b2_t h] at m1
    have hh := wk3 p h.1 (by omega)
    have g1 : ¬ (p < 0) := by omega
    have g2 : ¬ (R 64 28 ≤ p) := by omega
    refine ⟨I (R 77 p), mk (th0 R) v rm, ?_, ?_, Q, w, rf, th0 R, v, rm, rfl, rfl, hr, hr', inv0, tx0 tx⟩
    · simp (disch := first | assumption | omega) only [fX12_waking, fX10_wakingAt, fX10_wakingAt_b22, fX10_wakingAt_b21, I_lit, orb_I, I_add, I_sub, I_mul, I_neg, nm_eq, bd0_s, bd2_s, un2_eq, un3_eq, un4_eq, un5_eq, un6_eq, cs2_l, cs2_r, mk_1, mk_2, wI_mk, wL_mk, wR_mk, setR_same, setR_setR, rZ_0, rZ_1, rZ_b2, it_b2, it_nb2, it_b21, it_nb21, I_lt, I_le, I_eq, I_div, castI, if_true, if_false, Classical.not_not, gC64_8, gC189_3, ldC192, wk1, g1, g2, hh]
    · simp only [fX13_waking, fX13_waking_b29, th0_I]
      simp (disch := first | assumption | omega) only [I_lit, orb_I, I_add, I_sub, I_mul, I_neg, nm_eq, bd0_s, bd2_s, un2_eq, un3_eq, un4_eq, un5_eq, un6_eq, cs2_l, cs2_r, mk_1, mk_2, wI_mk, wL_mk, wR_mk, setR_same, setR_setR, rZ_0, rZ_1, rZ_b2, it_b2, it_nb2, it_b21, it_nb21, I_lt, I_le, I_eq, I_div, castI, if_true, if_false, Classical.not_not, th0_64, m1, gM27, ldM77, Int.reduceEq]
      rw [th0_ne (by omega)]
  · rw [b2_f h] at m1
    refine ⟨I (-1), mk (th0 R) v rm, ?_, ?_, Q, w, rf, th0 R, v, rm, rfl, rfl, hr, hr', inv0, tx0 tx⟩
    · simp (disch := first | assumption | omega) only [fX12_waking, fX10_wakingAt, fX10_wakingAt_b22, fX10_wakingAt_b21, I_lit, orb_I, I_add, I_sub, I_mul, I_neg, nm_eq, bd0_s, bd2_s, un2_eq, un3_eq, un4_eq, un5_eq, un6_eq, cs2_l, cs2_r, mk_1, mk_2, wI_mk, wL_mk, wR_mk, setR_same, setR_setR, rZ_0, rZ_1, rZ_b2, it_b2, it_nb2, it_b21, it_nb21, I_lt, I_le, I_eq, I_div, castI, if_true, if_false, Classical.not_not, gC64_8, wk1]
      (repeat' split)
      · rfl
      · rfl
      · omega
    · simp only [fX13_waking, fX13_waking_b29, th0_I]
      simp (disch := first | assumption | omega) only [I_lit, orb_I, I_add, I_sub, I_mul, I_neg, nm_eq, bd0_s, bd2_s, un2_eq, un3_eq, un4_eq, un5_eq, un6_eq, cs2_l, cs2_r, mk_1, mk_2, wI_mk, wL_mk, wR_mk, setR_same, setR_setR, rZ_0, rZ_1, rZ_b2, it_b2, it_nb2, it_b21, it_nb21, I_lt, I_le, I_eq, I_div, castI, if_true, if_false, Classical.not_not, th0_64, m1, Int.reduceEq]
theorem op_rolled {S S' : Nat → Nat × Nat} (hS : SCok S) (hS' : SMok S') (a1 : Int32) : OpC0 (fun σ => fX12_rolled S σ 64 a1) (fun σ => fX13_rolled S' σ 64 a1) := by
  intro t σC σM ⟨Q, w, rf, R, v, rm, q1, q2, hr, hr', inv, tx⟩; subst q1; subst q2
  obtain ⟨p, rfl, hp⟩ := exI a1
  have inv0 := INV_th inv
  obtain ⟨ta, pa, li, ur, fa, wk, ⟨ro1, ro2, ro3⟩, se, im, sw⟩ := inv
  have m1 := M_isIn (S := S') (σ := mk (th0 R) v rm) (v := p) (a := 0) (b := 3) hp (by omega) (by omega)
  have fin : ∀ r, fX12_rolled S (mk Q w rf) 64 (I p) = some r → fX13_rolled S' (mk R v rm) 64 (I p) = some (r, mk (th0 R) v rm) → ∃ r σM', fX12_rolled S (mk Q w rf) 64 (I p) = some r ∧ fX13_rolled S' (mk R v rm) 64 (I p) = some (r, σM') ∧ SimX t (mk Q w rf) σM' := fun r h1 h2 => ⟨r, _, h1, h2, Q, w, rf, th0 R, v, rm, rfl, rfl, hr, hr', inv0, tx0 tx⟩
  rcases ro2 with h | h
  · apply fin (I (-1))
    · simp (disch := first | assumption | omega) only [fX12_rolled, fX6_told, I_lit, orb_I, I_add, I_sub, I_mul, I_neg, nm_eq, bd0_s, bd2_s, un2_eq, un3_eq, un4_eq, un5_eq, un6_eq, cs2_l, cs2_r, mk_1, mk_2, wI_mk, wL_mk, wR_mk, setR_same, setR_setR, rZ_0, rZ_1, rZ_b2, it_b2, it_nb2, it_b21, it_nb21, I_lt, I_le, I_eq, I_div, castI, if_true, if_false, Classical.not_not, gC64_9, ro1, h, not_true]
    · simp only [fX13_rolled, fX13_rolled_b31, fX13_rolled_b30, th0_I]
      simp (disch := first | assumption | omega) only [I_lit, orb_I, I_add, I_sub, I_mul, I_neg, nm_eq, bd0_s, bd2_s, un2_eq, un3_eq, un4_eq, un5_eq, un6_eq, cs2_l, cs2_r, mk_1, mk_2, wI_mk, wL_mk, wR_mk, setR_same, setR_setR, rZ_0, rZ_1, rZ_b2, it_b2, it_nb2, it_b21, it_nb21, I_lt, I_le, I_eq, I_div, castI, if_true, if_false, Classical.not_not, th0_64, h]
  · obtain ⟨o1, o2, o3, o4⟩ := ro3 h
    by_cases hc : 0 ≤ p ∧ p ≤ 3
    · rw [b2_t hc] at m1
      apply fin (I (R 80 p))
      · have hd : p = 0 ∨ p = 1 ∨ p = 2 ∨ p = 3 := by omega
        rcases hd with e | e | e | e <;> subst e
        · simp (disch := first | assumption | omega) only [fX12_rolled, fX6_told, I_lit, orb_I, I_add, I_sub, I_mul, I_neg, nm_eq, bd0_s, bd2_s, un2_eq, un3_eq, un4_eq, un5_eq, un6_eq, cs2_l, cs2_r, mk_1, mk_2, wI_mk, wL_mk, wR_mk, setR_same, setR_setR, rZ_0, rZ_1, rZ_b2, it_b2, it_nb2, it_b21, it_nb21, I_lt, I_le, I_eq, I_div, castI, if_true, if_false, Classical.not_not, gC64_9, ro1, h, o1, Int.reduceEq, not_false_eq_true]
        · simp (disch := first | assumption | omega) only [fX12_rolled, fX6_told, I_lit, orb_I, I_add, I_sub, I_mul, I_neg, nm_eq, bd0_s, bd2_s, un2_eq, un3_eq, un4_eq, un5_eq, un6_eq, cs2_l, cs2_r, mk_1, mk_2, wI_mk, wL_mk, wR_mk, setR_same, setR_setR, rZ_0, rZ_1, rZ_b2, it_b2, it_nb2, it_b21, it_nb21, I_lt, I_le, I_eq, I_div, castI, if_true, if_false, Classical.not_not, gC64_9, ro1, h, o2, Int.reduceEq, not_false_eq_true]
        · simp (disch := first | assumption | omega) only [fX12_rolled, fX6_told, I_lit, orb_I, I_add, I_sub, I_mul, I_neg, nm_eq, bd0_s, bd2_s, un2_eq, un3_eq, un4_eq, un5_eq, un6_eq, cs2_l, cs2_r, mk_1, mk_2, wI_mk, wL_mk, wR_mk, setR_same, setR_setR, rZ_0, rZ_1, rZ_b2, it_b2, it_nb2, it_b21, it_nb21, I_lt, I_le, I_eq, I_div, castI, if_true, if_false, Classical.not_not, gC64_9, ro1, h, o3, Int.reduceEq, not_false_eq_true]
        · simp (disch := first | assumption | omega) only [fX12_rolled, fX6_told, I_lit, orb_I, I_add, I_sub, I_mul, I_neg, nm_eq, bd0_s, bd2_s, un2_eq, un3_eq, un4_eq, un5_eq, un6_eq, cs2_l, cs2_r, mk_1, mk_2, wI_mk, wL_mk, wR_mk, setR_same, setR_setR, rZ_0, rZ_1, rZ_b2, it_b2, it_nb2, it_b21, it_nb21, I_lt, I_le, I_eq, I_div, castI, if_true, if_false, Classical.not_not, gC64_9, ro1, h, o4, Int.reduceEq, not_false_eq_true]
      · simp only [fX13_rolled, fX13_rolled_b31, fX13_rolled_b30, th0_I]
        simp (disch := first | assumption | omega) only [I_lit, orb_I, I_add, I_sub, I_mul, I_neg, nm_eq, bd0_s, bd2_s, un2_eq, un3_eq, un4_eq, un5_eq, un6_eq, cs2_l, cs2_r, mk_1, mk_2, wI_mk, wL_mk, wR_mk, setR_same, setR_setR, rZ_0, rZ_1, rZ_b2, it_b2, it_nb2, it_b21, it_nb21, I_lt, I_le, I_eq, I_div, castI, if_true, if_false, Classical.not_not, th0_64, h, m1, gM35, ldM80, Int.reduceEq]
        rw [th0_ne (by omega)]
    · rw [b2_f hc] at m1
      apply fin (I (-1))
      · have e0 : ¬ (p = 0) := by omega
        have e1 : ¬ (p = 1) := by omega
        have e2 : ¬ (p = 2) := by omega
        have e3 : ¬ (p = 3) := by omega
        simp (disch := first | assumption | omega) only [fX12_rolled, fX6_told, I_lit, orb_I, I_add, I_sub, I_mul, I_neg, nm_eq, bd0_s, bd2_s, un2_eq, un3_eq, un4_eq, un5_eq, un6_eq, cs2_l, cs2_r, mk_1, mk_2, wI_mk, wL_mk, wR_mk, setR_same, setR_setR, rZ_0, rZ_1, rZ_b2, it_b2, it_nb2, it_b21, it_nb21, I_lt, I_le, I_eq, I_div, castI, if_true, if_false, Classical.not_not, gC64_9, ro1, h, e0, e1, e2, e3, Int.reduceEq, not_false_eq_true]
      · simp only [fX13_rolled, fX13_rolled_b31, fX13_rolled_b30, th0_I]
        simp (disch := first | assumption | omega) only [I_lit, orb_I, I_add, I_sub, I_mul, I_neg, nm_eq, bd0_s, bd2_s, un2_eq, un3_eq, un4_eq, un5_eq, un6_eq, cs2_l, cs2_r, mk_1, mk_2, wI_mk, wL_mk, wR_mk, setR_same, setR_setR, rZ_0, rZ_1, rZ_b2, it_b2, it_nb2, it_b21, it_nb21, I_lt, I_le, I_eq, I_div, castI, if_true, if_false, Classical.not_not, th0_64, h, m1, Int.reduceEq]
theorem op_end {S S' : Nat → Nat × Nat} (hS : SCok S) (hS' : SMok S') (a1 : Int32) : OpC1 (fun σ => fX12_end S σ 64 a1) (fun σ => fX13_end S' σ 64 a1) := by
  intro t σC σM ⟨Q, w, rf, R, v, rm, q1, q2, hr, hr', inv, tx⟩; subst q1; subst q2
  obtain ⟨p, rfl, hp⟩ := exI a1
  have inv0 := INV_th inv
  have inv' := inv
  obtain ⟨⟨ta1, ta2, ta3⟩, pa, li, ur, fa, wk, ro, se, im, sw⟩ := inv
  by_cases h : 0 ≤ p ∧ p ≤ R 64 2
  · have g1 : ¬ (p < 0) := by omega
    have g2 : p ≤ R 64 2 := by omega
    refine ⟨I 1, mk (setR Q 65 (updf (Q 65) 1 p)) w rf, mk (setR (th0 R) 64 (updf (th0 R 64) 2 p)) v rm, ?_, ?_, _, w, rf, _, v, rm, rfl, rfl, hr, hr', ?_, ?_⟩
    · simp (disch := first | assumption | omega) only [fX12_end, fX12_end_b15, I_lit, orb_I, I_add, I_sub, I_mul, I_neg, nm_eq, bd0_s, bd2_s, un2_eq, un3_eq, un4_eq, un5_eq, un6_eq, cs2_l, cs2_r, mk_1, mk_2, wI_mk, wL_mk, wR_mk, setR_same, setR_setR, rZ_0, rZ_1, rZ_b2, it_b2, it_nb2, it_b21, it_nb21, I_lt, I_le, I_eq, I_div, castI, if_true, if_false, Classical.not_not, gC64_0, ta1, g1, g2]
    · simp only [fX13_end, fX13_end_b17, th0_I]
      simp (disch := first | assumption | omega) only [I_lit, orb_I, I_add, I_sub, I_mul, I_neg, nm_eq, bd0_s, bd2_s, un2_eq, un3_eq, un4_eq, un5_eq, un6_eq, cs2_l, cs2_r, mk_1, mk_2, wI_mk, wL_mk, wR_mk, setR_same, setR_setR, rZ_0, rZ_1, rZ_b2, it_b2, it_nb2, it_b21, it_nb21, I_lt, I_le, I_eq, I_div, castI, if_true, if_false, Classical.not_not, th0_64, g1, g2]
    · obtain ⟨t2, pa2, ⟨lo2, cl2⟩, ur2, fa2, wk2, ro2, se2, im2, sw2⟩ := inv0
      refine ⟨?_, ?_, ⟨?_, ?_⟩, ?_, ?_, ?_, ?_, ?_, ?_, sw2⟩
      · simp (disch := first | assumption | omega) only [setR_ne, setR_same, updf_same, th0_ne]
        exact ⟨rfl, by omega, fun i h1 h2 => ta3 i h1 (by omega)⟩
      · simp (disch := first | assumption | omega) only [setR_ne]
        exact ⟨pa2.1, CP_q pa2.2.1 (fun a h1 h2 => setR_ne (by omega)), pa2.2.2⟩
      · simp (disch := first | assumption | omega) only [setR_ne]; exact lo2
      · simp (disch := first | assumption | omega) only [setR_ne]; exact CL_q cl2 (fun a h1 h2 => setR_ne (by omega))
      · simp (disch := first | assumption | omega) only [setR_ne, setR_same, updf_ne]
        exact UR_q ur2 pa2.1 (fun a h => setR_ne (by omega)) rfl (AgP_refl _)
      · simp (disch := first | assumption | omega) only [setR_ne, setR_same, updf_ne]; exact fa2
      · simp (disch := first | assumption | omega) only [setR_ne, setR_same, updf_ne]; exact wk2
      · simp (disch := first | assumption | omega) only [setR_ne, setR_same, updf_ne]; exact ro2
      · simp (disch := first | assumption | omega) only [setR_ne]; exact se2
      · simp (disch := first | assumption | omega) only [setR_ne]
        exact imgR_q im2 (fun a h => setR_ne (by omega)) (fun a h => rfl) rfl rfl
    · simp (disch := first | assumption | omega) only [setR_ne, setR_same, updf_ne]; exact tx0 tx
  · refine ⟨I 0, mk Q w rf, mk (th0 R) v rm, ?_, ?_, Q, w, rf, th0 R, v, rm, rfl, rfl, hr, hr', inv0, tx0 tx⟩
    · simp (disch := first | assumption | omega) only [fX12_end, fX12_end_b15, I_lit, orb_I, I_add, I_sub, I_mul, I_neg, nm_eq, bd0_s, bd2_s, un2_eq, un3_eq, un4_eq, un5_eq, un6_eq, cs2_l, cs2_r, mk_1, mk_2, wI_mk, wL_mk, wR_mk, setR_same, setR_setR, rZ_0, rZ_1, rZ_b2, it_b2, it_nb2, it_b21, it_nb21, I_lt, I_le, I_eq, I_div, castI, if_true, if_false, Classical.not_not, gC64_0, ta1]
      (repeat' split)
      · rfl
      · omega
      · rfl
    · simp only [fX13_end, fX13_end_b17, th0_I]
      simp (disch := first | assumption | omega) only [I_lit, orb_I, I_add, I_sub, I_mul, I_neg, nm_eq, bd0_s, bd2_s, un2_eq, un3_eq, un4_eq, un5_eq, un6_eq, cs2_l, cs2_r, mk_1, mk_2, wI_mk, wL_mk, wR_mk, setR_same, setR_setR, rZ_0, rZ_1, rZ_b2, it_b2, it_nb2, it_b21, it_nb21, I_lt, I_le, I_eq, I_div, castI, if_true, if_false, Classical.not_not, th0_64]
      (repeat' split)
      · rfl
      · omega
      · rfl
