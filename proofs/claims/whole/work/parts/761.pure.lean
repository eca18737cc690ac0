def begQ (Q : Nat → Int → Int) (lim : Int) : Nat → Int → Int := setR Q 65 (updf (updf (updf (updf (Q 65) 2 lim) 3 0) 9 0) 10 0)
theorem BEG {S S' : Nat → Nat × Nat} {Q : Nat → Int → Int} {w : Nat → Nat → Int64} {rf : Nat → Nat → Option Nat} {R : Nat → Int → Int} {v : Nat → Nat → Int64} {rm : Nat → Nat → Option Nat} {lim : Int} (hS : SCok S) (hS' : SMok S') (hr : RCok rf) (hr' : RMok rm) (ta : tapeR (Q 66) (Q 65 1) (R 64 2) (R 65)) (hl : 0 ≤ lim ∧ lim ≤ 940) : ∃ Q1 w1 rf1 R1 v1, fX8_begin S (mk Q w rf) 65 (I lim) = some (mk (begQ Q lim) w rf) ∧ fX8_next S (mk (begQ Q lim) w rf) 65 = some (mk Q1 w1 rf1) ∧ fX13_begin S' (mk R v rm) 64 (I lim) = some (mk R1 v1 rm) ∧ SYN Q1 w1 rf1 R1 v1 (R 64 2) lim ∧ RCok rf1 ∧ ((∀ a, a ≠ 65 → Q1 a = Q a) ∧ (∀ a j, ¬ (a = 65 ∧ j = 7) → w1 a j = w a j) ∧ (∀ a j, ¬ (a = 65 ∧ j = 8) → rf1 a j = rf a j)) ∧ ((∀ a, a ≠ 64 → R1 a = R a) ∧ R1 64 2 = 0 ∧ (∀ j, 13 < j → R1 64 j = R 64 j) ∧ (∀ a j, ¬ (a = 64 ∧ j = 12) → v1 a j = v a j)) ∧ (R1 64 7 = 0 ∨ R1 64 7 = 1 ∨ 1 ≤ Q1 65 3) := by
  obtain ⟨t1, t2, t3⟩ := ta
  have hq0' : begQ Q lim = setR Q 65 (updf (updf (updf (updf (Q 65) 2 lim) 3 0) 9 0) 10 0) := rfl
  generalize hq00 : begQ Q lim = Q0 at *
  have hq0 := hq0'.symm
  generalize hr0 : setR R 64 (updf (updf (updf (updf (updf (updf (R 64) 0 0) 2 0) 3 (R 64 2)) 4 lim) 10 0) 5 0) = R0
  have q0 : ∀ a, a ≠ 65 → Q0 a = Q a := fun a ha => by rw [← hq0, setR_ne ha]
  have q1 : Q0 65 1 = R 64 2 := by rw [← hq0, setR_same, updf_ne (by omega), updf_ne (by omega), updf_ne (by omega), updf_ne (by omega), t1]
  have q2 : Q0 65 2 = lim := by rw [← hq0, setR_same, updf_ne (by omega), updf_ne (by omega), updf_ne (by omega), updf_same rfl]
  have q3 : Q0 65 3 = 0 := by rw [← hq0, setR_same, updf_ne (by omega), updf_ne (by omega), updf_same rfl]
  have q9 : Q0 65 9 = 0 := by rw [← hq0, setR_same, updf_ne (by omega), updf_same rfl]
  have r0 : ∀ a, a ≠ 64 → R0 a = R a := fun a ha => by rw [← hr0, setR_ne ha]
  have r2 : R0 64 2 = 0 := by rw [← hr0, setR_same, updf_ne (by omega), updf_ne (by omega), updf_ne (by omega), updf_ne (by omega), updf_same rfl]
  have r3 : R0 64 3 = R 64 2 := by rw [← hr0, setR_same, updf_ne (by omega), updf_ne (by omega), updf_ne (by omega), updf_same rfl]
  have r4 : R0 64 4 = lim := by rw [← hr0, setR_same, updf_ne (by omega), updf_ne (by omega), updf_same rfl]
  have r10 : R0 64 10 = 0 := by rw [← hr0, setR_same, updf_ne (by omega), updf_same rfl]
  have r5 : R0 64 5 = 0 := by rw [← hr0, setR_same, updf_same rfl]
  have rj : ∀ j, 13 < j → R0 64 j = R 64 j := fun j hj => by rw [← hr0, setR_same, updf_ne (by omega), updf_ne (by omega), updf_ne (by omega), updf_ne (by omega), updf_ne (by omega), updf_ne (by omega)]
  have tp : tpR (Q0 66) (R 64 2) (R0 65) := by
    rw [q0 66 (by omega), r0 65 (by omega)]
    exact ⟨t2, t3⟩
  obtain ⟨Q1, w1, rf1, R1, v1, k1, k2, k3, k4, k5, k6⟩ := lex (S := S) (S' := S') (Q := Q0) (w := w) (rf := rf) (R := R0) (v := v) (rm := rm) (n := R 64 2) (m := lim) (a := 0) hS hS' hr hr' tp q1 r3 q2 r4 hl q3 r5 (by omega)
  refine ⟨Q1, w1, rf1, R1, v1, ?_, k1, ?_, ⟨⟨?_, ?_, ?_, ?_, ?_, hl, ?_, ?_⟩, k3⟩, RCok_of hr (fun a j h => k4.2.2.2 a j h.2.2.2.2.2), ⟨?_, k4.2.2.1, k4.2.2.2⟩, ⟨?_, ?_, ?_, k5.2.2⟩, ?_⟩
  · rw [← hq0]
    simp (disch := first | assumption | omega) only [fX8_begin, I_lit, orb_I, I_add, I_sub, I_mul, I_neg, nm_eq, bd0_s, bd2_s, un2_eq, un3_eq, un4_eq, un5_eq, un6_eq, cs2_l, cs2_r, mk_1, mk_2, wI_mk, wL_mk, wR_mk, setR_same, setR_setR, rZ_0, rZ_1, rZ_b2, it_b2, it_nb2, it_b21, it_nb21, I_lt, I_le, I_eq, I_div, castI, if_true, if_false, Classical.not_not]
  · rw [← hr0] at k2
    simp (disch := first | assumption | omega) only [fX13_begin, fX13_take, I_lit, orb_I, I_add, I_sub, I_mul, I_neg, nm_eq, bd0_s, bd2_s, un2_eq, un3_eq, un4_eq, un5_eq, un6_eq, cs2_l, cs2_r, mk_1, mk_2, wI_mk, wL_mk, wR_mk, setR_same, setR_setR, rZ_0, rZ_1, rZ_b2, it_b2, it_nb2, it_b21, it_nb21, I_lt, I_le, I_eq, I_div, castI, if_true, if_false, Classical.not_not, updf_ne, k2]
  · rw [k4.1 66 (by omega), k5.1 65 (by omega)]; exact tp
  · rw [k4.2.1 1 (by omega)]; exact q1
  · rw [k5.2.1 3 (by omega)]; exact r3
  · rw [k4.2.1 2 (by omega)]; exact q2
  · rw [k5.2.1 4 (by omega)]; exact r4
  · rw [k4.2.1 9 (by omega)]; exact q9
  · rw [k5.2.1 10 (by omega)]; exact r10
  · intro a ha
    rw [k4.1 a ha, q0 a ha]
  · intro a ha
    rw [k5.1 a ha, r0 a ha]
  · rw [k5.2.1 2 (by omega)]; exact r2
  · intro j hj
    rw [k5.2.1 j (by omega), rj j hj]
  · have t3' := k3.2.2
    have h6 := k3.2.1
    unfold tkP at t3'
    rcases t3' with ⟨z1, -⟩ | ⟨z1, -⟩ | ⟨z1, -, -, -, z2, z3, -⟩ | ⟨z1, -, ⟨z2, z3, -⟩, -⟩ | ⟨z1, -, -, ⟨z2, z3, -⟩, -⟩ <;> omega
theorem PLOOP {S S' : Nat → Nat × Nat} {rm : Nat → Nat → Option Nat} {n : Int} (hS : SCok S) (hS' : SMok S') (hr' : RMok rm) : ∀ (d k : Nat) (Q : Nat → Int → Int) (w : Nat → Nat → Int64) (rf : Nat → Nat → Option Nat) (R : Nat → Int → Int) (v : Nat → Nat → Int64) (fC fM : Nat), k + d = 471 → d + 1 < fC → d + 1 < fM → RCok rf → SYN Q w rf R v n 900 → DRF Q w (v 72) (R 64 24) (R 67) → (R 64 7 = 0 ∨ R 64 7 = 1 ∨ 2 * (k : Int) + 1 ≤ Q 65 3) → ∃ Q1 w1 rf1 R1 v1, FCp Q Q1 w w1 rf rf1 ∧ FMp R R1 v v1 ∧ RCok rf1 ∧ ((∃ j : Nat, j ≤ 471 ∧ loopN (fX5_read_L36 S 103) fC (I k, mk Q w rf) = some (.inr (I j, mk Q1 w1 rf1)) ∧ loopN (fX13_parish_L18 S' 64) fM (I k, mk R v rm) = some (.inr (I j, mk R1 v1 rm)) ∧ DRF Q1 w1 (v1 72) (R1 64 24) (R1 67) ∧ Q1 65 9 = 0 ∧ R1 64 10 = 0) ∨ (loopN (fX5_read_L36 S 103) fC (I k, mk Q w rf) = some (.inl (mk Q1 w1 rf1)) ∧ loopN (fX13_parish_L18 S' 64) fM (I k, mk R v rm) = some (.inl (mk R1 v1 rm)) ∧ FAIL Q1 R1)) := by
  intro d
  induction d with
  | zero =>
    intro k Q w rf R v fC fM hk hfC hfM hr sy dr hp
    obtain ⟨fC', rfl⟩ : ∃ f, fC = f + 1 := ⟨fC - 1, by omega⟩
    obtain ⟨fM', rfl⟩ : ∃ f, fM = f + 1 := ⟨fM - 1, by omega⟩
    have tk := TK_k sy.2
    have e4 : (mk Q w rf).1 65 4 = I (Q 65 4) := by rw [mk_1, castI]
    have e7 : (mk R v rm).1 64 7 = I (R 64 7) := by rw [mk_1, castI]
    by_cases h0 : R 64 7 = 0
    · have h4 : Q 65 4 = 0 := tk.2.2.2.1.2 h0
      refine ⟨Q, w, rf, R, v, FCp_of fc_refl, FMp_refl, hr, Or.inl ⟨k, by omega, ?_, ?_, dr, sy.1.2.2.2.2.2.2.1, sy.1.2.2.2.2.2.2.2⟩⟩
      · refine loop_ex ?_
        simp only [fX5_read_L36, un2_eq, gC103_0 hr, e4, h4]
        rfl
      · refine loop_ex ?_
        simp only [fX13_parish_L18, un2_eq, e7, h0]
        rfl
    have hk9 : ¬ ((900 : Int32) ≤ I (k : Int)) := by rw [I_lit, I_le (by omega) (by omega)]; omega
    have n4 : ¬ (I (Q 65 4) = 0) := by
      rw [I_lit, I_eq (by omega) (by omega)]
      exact fun h => h0 (tk.2.2.2.1.1 h)
    have n7 : ¬ (I (R 64 7) = 0) := by
      rw [I_lit, I_eq (by omega) (by omega)]
      exact h0
    rcases L_line hS hS' hr hr' sy dr with ⟨h2, -⟩ | ⟨l1, l2⟩
    · exfalso
      have n9 := sy.1.1.1
      rcases sy.2.2.2 with ⟨z1, -⟩ | ⟨z1, -⟩ | ⟨z1, -⟩ | ⟨z1, -, ⟨z2, z3, z4⟩, -⟩ | ⟨z1, -⟩ <;> omega
    · refine ⟨failQ Q 1, w, rf, badR R 1, v, FCp_of (fc_fail fc_refl), FMp_of (fm_bad fm_refl), hr, Or.inr ⟨?_, ?_, FAIL_mk sy.2⟩⟩
      · refine loop_ex ?_
        simp only [fX5_read_L36, un2_eq, gC103_0 hr, e4, if_neg n4, if_neg hk9, l1, bd2_p]
        rfl
      · refine loop_ex ?_
        simp only [fX13_parish_L18, un2_eq, e7, if_neg n7, l2, bd2_p]
        rfl
  | succ d ih =>
    intro k Q w rf R v fC fM hk hfC hfM hr sy dr hp
    obtain ⟨fC', rfl⟩ : ∃ f, fC = f + 1 := ⟨fC - 1, by omega⟩
    obtain ⟨fM', rfl⟩ : ∃ f, fM = f + 1 := ⟨fM - 1, by omega⟩
    have tk := TK_k sy.2
    have e4 : (mk Q w rf).1 65 4 = I (Q 65 4) := by rw [mk_1, castI]
    have e7 : (mk R v rm).1 64 7 = I (R 64 7) := by rw [mk_1, castI]
    by_cases h0 : R 64 7 = 0
    · have h4 : Q 65 4 = 0 := tk.2.2.2.1.2 h0
      refine ⟨Q, w, rf, R, v, FCp_of fc_refl, FMp_refl, hr, Or.inl ⟨k, by omega, ?_, ?_, dr, sy.1.2.2.2.2.2.2.1, sy.1.2.2.2.2.2.2.2⟩⟩
      · refine loop_ex ?_
        simp only [fX5_read_L36, un2_eq, gC103_0 hr, e4, h4]
        rfl
      · refine loop_ex ?_
        simp only [fX13_parish_L18, un2_eq, e7, h0]
        rfl
    have hk9 : ¬ ((900 : Int32) ≤ I (k : Int)) := by rw [I_lit, I_le (by omega) (by omega)]; omega
    have n4 : ¬ (I (Q 65 4) = 0) := by
      rw [I_lit, I_eq (by omega) (by omega)]
      exact fun h => h0 (tk.2.2.2.1.1 h)
    have n7 : ¬ (I (R 64 7) = 0) := by
      rw [I_lit, I_eq (by omega) (by omega)]
      exact h0
    rcases L_line hS hS' hr hr' sy dr with ⟨h2, Q1, w1, rf1, R1, v1, a1, a2, a3, a4⟩ | ⟨l1, l2⟩
    · rcases a4 with ⟨l1, l2, ⟨-, p2, p3⟩, p4⟩ | ⟨l1, l2, p1⟩
      · obtain ⟨Q2, w2, rf2, R2, v2, s1, s2, s3, s4⟩ := SEM (S := S) (w := w1) hS hS' a3 hr' p2
        have s3' := fmp_dr s3
        rcases s4 with ⟨t1, t2, t3, t4⟩ | ⟨t1, t2, t3⟩
        · obtain ⟨Q3, w3, rf3, b1, b2', b3, b4, b5⟩ := nextB (S := S) (w := w2) hS hS' s1 hr' t3
          have dr3 : DRF Q3 w3 (v2 72) (R2 64 24) (R2 67) := by
            rw [s3'.1, s3'.2.1, s3'.2.2]
            exact DRF_fc (DRF_fc p3 s2) (fc_of b4)
          obtain ⟨Q4, w4, rf4, R4, v4, c1, c2, c3, c4⟩ := ih (k + 1) Q3 w3 rf3 R2 v2 fC' fM' (by omega) (by omega) (by omega) b2' b3 dr3 (by unfold wpos at b5; omega)
          have ec : loopN (fX5_read_L36 S 103) (fC' + 1) (I k, mk Q w rf) = loopN (fX5_read_L36 S 103) fC' (I ((k + 1 : Nat) : Int), mk Q3 w3 rf3) := by
            refine loop_st ?_
            simp only [fX5_read_L36, un2_eq, gC103_0 hr, e4, if_neg n4, if_neg hk9, l1, bd2_p]
            rw [if_neg (by decide), gC103_0 a3, t1, bd2_p, if_pos (by decide), nm_eq, gC103_0 s1, b1, bd0_s, show (1 : Int32) = I 1 from rfl, I_add]
            rfl
          have em : loopN (fX13_parish_L18 S' 64) (fM' + 1) (I k, mk R v rm) = loopN (fX13_parish_L18 S' 64) fM' (I ((k + 1 : Nat) : Int), mk R2 v2 rm) := by
            refine loop_st ?_
            simp only [fX13_parish_L18, un2_eq, e7, if_neg n7, l2, bd2_p]
            rw [if_neg (by decide), t2, bd2_p, if_pos (by decide), nm_eq, show (1 : Int32) = I 1 from rfl, I_add]
            rfl
          rw [ec, em]
          exact ⟨Q4, w4, rf4, R4, v4, FCp_trans (FCp_trans (FCp_trans a1 (FCp_of s2)) (FCp_of (fc_of b4))) c1, FMp_trans (FMp_trans a2 (FMp_of s3)) c2, c3, c4⟩
        · refine ⟨Q2, w2, rf2, R2, v2, FCp_trans a1 (FCp_of s2), FMp_trans a2 (FMp_of s3), s1, Or.inr ⟨?_, ?_, t3⟩⟩
          · refine loop_ex ?_
            simp only [fX5_read_L36, un2_eq, gC103_0 hr, e4, if_neg n4, if_neg hk9, l1, bd2_p]
            rw [if_neg (by decide), gC103_0 a3, t1, bd2_p, if_neg (by decide)]
          · refine loop_ex ?_
            simp only [fX13_parish_L18, un2_eq, e7, if_neg n7, l2, bd2_p]
            rw [if_neg (by decide), t2, bd2_p, if_neg (by decide)]
      · refine ⟨Q1, w1, rf1, R1, v1, a1, a2, a3, Or.inr ⟨?_, ?_, p1⟩⟩
        · refine loop_ex ?_
          simp only [fX5_read_L36, un2_eq, gC103_0 hr, e4, if_neg n4, if_neg hk9, l1, bd2_p]
          rfl
        · refine loop_ex ?_
          simp only [fX13_parish_L18, un2_eq, e7, if_neg n7, l2, bd2_p]
          rfl
    · refine ⟨failQ Q 1, w, rf, badR R 1, v, FCp_of (fc_fail fc_refl), FMp_of (fm_bad fm_refl), hr, Or.inr ⟨?_, ?_, FAIL_mk sy.2⟩⟩
      · refine loop_ex ?_
        simp only [fX5_read_L36, un2_eq, gC103_0 hr, e4, if_neg n4, if_neg hk9, l1, bd2_p]
        rfl
      · refine loop_ex ?_
        simp only [fX13_parish_L18, un2_eq, e7, if_neg n7, l2, bd2_p]
        rfl
