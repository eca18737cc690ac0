theorem ref_byteAt {S' : Nat → Nat × Nat} (hS' : SMok S') {p : Int} (hp : -2147483648 ≤ p ∧ p < 2147483648) : ∀ t σC σM, SimX t σC σM → ∃ σM', fX13_byteAt S' σM 64 (I p) = some (if 0 ≤ p ∧ p < t.1 then I (t.2 p) else I (-1), σM') ∧ SimX t σC σM' := by
  rintro t σC σM ⟨Q, w, rf, R, v, rm, rfl, rfl, hr, hr', inv, tx⟩
  have inv0 := INV_th inv
  obtain ⟨tx1, tx2, tx3⟩ := id tx
  have m1 := M_isIn (S := S') (σ := mk (th0 R) v rm) (v := p) (a := 0) (b := R 64 32 - 1) hp (by omega) (by omega)
  by_cases h : 0 ≤ p ∧ p ≤ R 64 32 - 1
  · rw [b2_t h] at m1
    refine ⟨mk (th0 R) v rm, ?_, Q, w, rf, th0 R, v, rm, rfl, rfl, hr, hr', inv0, tx0 tx⟩
    rw [if_pos (by omega), ← tx3 p h.1 (by omega)]
    simp only [fX13_byteAt, fX13_byteAt_b29, th0_I]
    simp (disch := first | assumption | omega) only [I_lit, orb_I, I_add, I_sub, I_mul, I_neg, nm_eq, bd0_s, bd2_s, un2_eq, un3_eq, un4_eq, un5_eq, un6_eq, cs2_l, cs2_r, mk_1, mk_2, wI_mk, wL_mk, wR_mk, setR_same, setR_setR, rZ_0, rZ_1, rZ_b2, it_b2, it_nb2, it_b21, it_nb21, I_lt, I_le, I_eq, I_div, castI, if_true, if_false, Classical.not_not, th0_64, m1, gM31, ldM78, Int.reduceEq]
    rw [th0_ne (by omega)]
  · rw [b2_f h] at m1
    refine ⟨mk (th0 R) v rm, ?_, Q, w, rf, th0 R, v, rm, rfl, rfl, hr, hr', inv0, tx0 tx⟩
    rw [if_neg (by omega)]
    simp only [fX13_byteAt, fX13_byteAt_b29, th0_I]
    simp (disch := first | assumption | omega) only [I_lit, orb_I, I_add, I_sub, I_mul, I_neg, nm_eq, bd0_s, bd2_s, un2_eq, un3_eq, un4_eq, un5_eq, un6_eq, cs2_l, cs2_r, mk_1, mk_2, wI_mk, wL_mk, wR_mk, setR_same, setR_setR, rZ_0, rZ_1, rZ_b2, it_b2, it_nb2, it_b21, it_nb21, I_lt, I_le, I_eq, I_div, castI, if_true, if_false, Classical.not_not, th0_64, m1, Int.reduceEq]
