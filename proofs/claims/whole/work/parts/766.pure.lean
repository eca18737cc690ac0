theorem M_swap {S : Nat → Nat × Nat} {R : Nat → Int → Int} {w : Nat → Nat → Int64} {rf : Nat → Nat → Option Nat} {x1 : Int32} (hS : SMok S) (hr : RMok rf) : loopN (fX13_stay_L2 S 64 x1) 1000 ((0 : Int32), mk R w rf) = some (mk (setR (setR R 66 (cpf (R 66) (R 70) 102 0 39)) 70 (cpf (R 70) (R 66) 0 102 39)) w rf) := by
  have l1 := loop_seq (f := fX13_stay_L2 S 64 x1) (m := 1000) (fun k => (I k, mk (setR (setR R 66 (cpf (R 66) (R 70) 102 0 k)) 70 (cpf (R 70) (R 66) 0 102 k)) w rf)) 39 (r := mk (setR (setR R 66 (cpf (R 66) (R 70) 102 0 39)) 70 (cpf (R 70) (R 66) 0 102 39)) w rf) (by omega) (by
    intro k hk
    have h5 : ¬ ((39 : Int) ≤ (k : Int)) := by omega
    have f1 : cpf (R 66) (R 70) 102 0 k (102 + k) = R 66 (102 + k) := cpf_out (by omega)
    have f2 : cpf (R 70) (R 66) 0 102 k k = R 70 k := cpf_out (by omega)
    simp (disch := first | assumption | omega) only [fX13_stay_L2, I_lit, orb_I, I_add, I_sub, I_mul, I_neg, nm_eq, bd0_s, bd2_s, un2_eq, un3_eq, un4_eq, un5_eq, un6_eq, cs2_l, cs2_r, mk_1, mk_2, wI_mk, wL_mk, wR_mk, setR_same, setR_setR, rZ_0, rZ_1, rZ_b2, it_b2, it_nb2, it_b21, it_nb21, I_lt, I_le, I_eq, I_div, castI, if_true, if_false, Classical.not_not, gM14, gM18, ldM66, ldM70, stM66, stM70, setR_ne, h5, f1, f2]
    have f3 : updf (cpf (R 66) (R 70) 102 0 k) (102 + k) (R 70 k) = cpf (R 66) (R 70) 102 0 ((k + 1 : Nat) : Int) := cpf_succ (by omega) (by omega) (by rw [Int.zero_add])
    have f4 : updf (cpf (R 70) (R 66) 0 102 k) k (R 66 (102 + k)) = cpf (R 70) (R 66) 0 102 ((k + 1 : Nat) : Int) := cpf_succ (by omega) (by omega) rfl
    rw [f3, f4, setR_comm (a := 70) (b := 66) (by omega), setR_setR, setR_setR]
    rfl) (by
    simp (disch := first | assumption | omega) only [fX13_stay_L2, I_lit, orb_I, I_add, I_sub, I_mul, I_neg, nm_eq, bd0_s, bd2_s, un2_eq, un3_eq, un4_eq, un5_eq, un6_eq, cs2_l, cs2_r, mk_1, mk_2, wI_mk, wL_mk, wR_mk, setR_same, setR_setR, rZ_0, rZ_1, rZ_b2, it_b2, it_nb2, it_b21, it_nb21, I_lt, I_le, I_eq, I_div, castI, if_true, if_false, Classical.not_not]
    rfl)
  have e0 : (I ((0 : Nat) : Int), mk (setR (setR R 66 (cpf (R 66) (R 70) 102 0 ((0 : Nat) : Int))) 70 (cpf (R 70) (R 66) 0 102 ((0 : Nat) : Int))) w rf) = ((0 : Int32), mk R w rf) := by
    rw [show ((0 : Nat) : Int) = 0 from rfl, cpf_0, cpf_0, setR_id, setR_id]
    rfl
  simp only [e0] at l1
  exact l1
theorem op_roll {S S' : Nat → Nat × Nat} (hS : SCok S) (hS' : SMok S') (a1 : Int32) : OpC1 (fun σ => fX12_roll S σ 64 a1) (fun σ => fX13_roll S' σ 64 a1) := by
  intro t σC σM ⟨Q, w, rf, Rz, v, rm, q1, q2, hr, hr', invz, txz⟩
  subst q1
  subst q2
  obtain ⟨x, rfl, hx⟩ := exI a1
  have inv := INV_th invz
  have tx := tx0 txz
  have m0 := M_isIn (S := S') (σ := mk (th0 Rz) v rm) (v := x) (a := 0) (b := 1) hx (by omega) (by omega)
  have epre : fX13_roll S' (mk Rz v rm) 64 (I x) = bd0 (fX13_isIn S' (mk (th0 Rz) v rm) (I x) (0 : Int32) (1 : Int32)) fun v2 => if ¬ v2 = 0 then bd0 (fX13_begin S' (mk (th0 Rz) v rm) 64 (400 : Int32)) fun τ3 => wI τ3 64 36 (0 : Int32) fun τ4 => bd0 (loopN (fX13_roll_L30 S' 64 (I x)) 1000 τ4) (cs2 (fun τ6 => some (((-2 : Int32) - (τ6.1 64 11)), τ6)) (fun τ7 => bd0 (fX13_layAside S' τ7 64) fun τ8 => bd0 (loopN (fX13_roll_L73 S' 64 (I x)) 1000 ((0 : Int32), (0 : Int32), τ8)) (un3 fun v10 v11 τ12 => fX13_roll_b103 S' τ12 64 (I x) v10 v11))) else some ((-1000 : Int32), mk (th0 Rz) v rm) := by
    unfold fX13_roll
    rw [th0_I]
  generalize th0 Rz = R at *
  by_cases h : 0 ≤ x ∧ x ≤ 1
  rotate_left
  · rw [b2_f h] at m0
    have m0' : fX13_isIn S' (mk R v rm) (I x) 0 1 = some 0 := m0
    rw [m0', bd0_s, if_neg (by decide)] at epre
    refine ⟨-1000, mk Q w rf, mk R v rm, ?_, epre, Q, w, rf, R, v, rm, rfl, rfl, hr, hr', inv, tx⟩
    have n0 : ¬ (I x = 0) := by rw [I_lit, I_eq (by omega) (by omega)]; omega
    have n1 : ¬ (I x = 1) := by rw [I_lit, I_eq (by omega) (by omega)]; omega
    show fX12_roll S (mk Q w rf) 64 (I x) = _
    unfold fX12_roll
    rw [if_neg n0, if_neg n1]
  rw [b2_t h] at m0
  have m0' : fX13_isIn S' (mk R v rm) (I x) 0 1 = some 1 := m0
  rw [m0', bd0_s, if_pos (by decide)] at epre
  have cpre : fX12_roll S (mk Q w rf) 64 (I x) = fX12_roll_b13 S (mk Q w rf) 64 (I x) := by
    unfold fX12_roll
    have : x = 0 ∨ x = 1 := by omega
    rcases this with h | h <;> subst h <;> rfl
  obtain ⟨ta, ⟨wf, cp, nam⟩, ⟨lo, cl⟩, ur, fa, wk, ro, se, im, ⟨sw1, sw2, sw3, sw4⟩⟩ := inv
  have wn0 := wf.1
  have wn1 := wf.2.1
  generalize hqb : setR Q 193 (updf (Q 193) 5 0) = Qb
  have qb : ∀ a, a ≠ 193 → Qb a = Q a := fun a h1 => by rw [← hqb, setR_ne h1]
  have ta' : tapeR (Qb 66) (Qb 65 1) (R 64 2) (R 65) := by rw [qb 66 (by omega), qb 65 (by omega)]; exact ta
  obtain ⟨Q1, w1, rf1, R1, v1, b1, b2', b3, b4, b5, ⟨b6, b7, b8⟩, ⟨b9, b10, b11, b12⟩, b13⟩ := BEG (w := w) (v := v) (lim := 400) hS hS' hr hr' ta' (by omega)
  have bq := (BEG (Q := Q) (w := w) (v := v) (R := R) (rm := rm) (lim := 400) hS hS' hr hr' ta (by omega))
  have bq1 : fX8_begin S (mk Q w rf) 65 (I 400) = some (mk (begQ Q 400) w rf) := by
    obtain ⟨_, _, _, _, _, h, _⟩ := bq
    exact h
  generalize hr2 : setR R1 64 (updf (R1 64) 36 0) = R2
  have r2o : ∀ a, a ≠ 64 → R2 a = R1 a := fun a h1 => by rw [← hr2, setR_ne h1]
  have r264 : ∀ j, j ≠ 36 → R2 64 j = R1 64 j := fun j hj => by rw [← hr2, setR_same, updf_ne hj]
  have sy : SYN Q1 w1 rf1 R2 v1 (R 64 2) 400 := SYN_q b4 (fun _ _ _ => rfl) rfl (fun j _ _ => r264 j (by omega)) (r2o 65 (by omega)) rfl rfl rfl
  have e66 : R2 66 = R 66 := by rw [r2o 66 (by omega), b9 66 (by omega)]
  have q193 : Q1 193 = updf (Q 193) 5 0 := by rw [b6 193 (by omega), ← hqb, setR_same]
  have w68 : w1 68 = w 68 := funext (fun j => b7 68 j (by omega))
  have w74 : w1 74 = w 74 := funext (fun j => b7 74 j (by omega))
  have w81 : w1 81 = w 81 := funext (fun j => b7 81 j (by omega))
  have v71 : v1 71 = v 71 := funext (fun j => b12 71 j (by omega))
  have cp1 : CP 67 Q1 (R2 66) := by
    rw [e66]
    exact CP_q cp (fun a h1 h2 => by rw [b6 a (by omega), qb a (by omega)])
  obtain ⟨Q4, w4, rf4, R4, v4, c1, c2, c3, c4⟩ := RLOOP (x1 := I x) hS hS' hr' 40 0 Q1 w1 rf1 R2 v1 1000 1000 rfl (by omega) (by omega) b5 sy (by rw [e66]; exact wf) cp1 (by rw [e66, w68, w74, w81, v71]; exact nam) (by rw [q193, updf_same rfl]; rfl) (by rw [← hr2, setR_same, updf_same rfl]; rfl) (fun i h1 h2 => by omega)
  have ecr : fX6_read S (mk Q w rf) 193 = bd0 (loopN (fX6_read_L22 S 193) 1000 (mk Q1 w1 rf1)) (cs2 (fun τ7 => fX6_read_b58 S τ7) (fun τ8 => fX6_read_b80 S τ8)) := by
    unfold fX6_read
    rw [gC193_0 hr, show (400 : Int32) = I 400 from rfl, bq1, bd0_s, show (0 : Int32) = I 0 from rfl, wI_mk]
    have e : setR (begQ Q 400) 193 (updf (begQ Q 400 193) ((5 : Nat) : Int) 0) = begQ Qb 400 := by
      unfold begQ
      rw [setR_ne (b := 193) (a := 65) (by omega), setR_comm (a := 65) (b := 193) (by omega), ← hqb, setR_ne (b := 65) (a := 193) (by omega)]
      rfl
    rw [e, gC193_0 hr, b2', bd0_s]
  have emr : fX13_roll S' (mk Rz v rm) 64 (I x) = bd0 (loopN (fX13_roll_L30 S' 64 (I x)) 1000 (mk R2 v1 rm)) (cs2 (fun τ6 => some (((-2 : Int32) - (τ6.1 64 11)), τ6)) (fun τ7 => bd0 (fX13_layAside S' τ7 64) fun τ8 => bd0 (loopN (fX13_roll_L73 S' 64 (I x)) 1000 ((0 : Int32), (0 : Int32), τ8)) (un3 fun v10 v11 τ12 => fX13_roll_b103 S' τ12 64 (I x) v10 v11))) := by
    rw [epre, show (400 : Int32) = I 400 from rfl, b3, bd0_s, show (0 : Int32) = I 0 from rfl, wI_mk]
    have e : setR R1 64 (updf (R1 64) ((36 : Nat) : Int) 0) = R2 := hr2
    rw [e]
  have k64 : ∀ j, 13 < j → j ≠ 36 → R4 64 j = R 64 j := fun j h1 h2 => by rw [c2.2.1 j (by omega) h2, r264 j h2, b11 j h1]
  have k2 : R4 64 2 = 0 := by rw [c2.2.1 2 (by omega) (by omega), r264 2 (by omega), b10]
  have km : ∀ a, a ≠ 64 → a ≠ 79 → R4 a = R a := fun a h1 h2 => by rw [c2.1 a h1 h2, r2o a h1, b9 a h1]
  have kv : ∀ a j, ¬ (a = 64 ∧ j = 12) → v4 a j = v a j := fun a j h1 => by rw [c2.2.2 a j h1, b12 a j h1]
  have kq : ∀ a, a ≠ 65 → a ≠ 193 → ¬ (194 ≤ a ∧ a ≤ 196) → Q4 a = Q a := fun a h1 h2 h3 => by rw [c1.1 a h1 h2 h3, b6 a h1, qb a h2]
  have kq193 : ∀ j, j ≠ 5 → Q4 193 j = Q 193 j := fun j hj => by rw [c1.2.1 j hj, q193, updf_ne hj]
  have kw : ∀ a j, ¬ (a = 65 ∧ j = 7) → w4 a j = w a j := fun a j h1 => by rw [c1.2.2.1 a j h1, b7 a j h1]
  have kr : ∀ a j, ¬ (a = 65 ∧ j = 8) → rf4 a j = rf a j := fun a j h => by rw [c1.2.2.2 a j h, b8 a j h]
  have kr' : ∀ a, a ≠ 65 → rf4 a = rf a := fun a h => funext (fun j => kr a j (by omega))
  have v71' : v4 71 = v 71 := funext (fun j => kv 71 j (by omega))
  have v73 : v4 73 = v 73 := funext (fun j => kv 73 j (by omega))
  have w68' : w4 68 = w 68 := funext (fun j => kw 68 j (by omega))
  have w74' : w4 74 = w 74 := funext (fun j => kw 74 j (by omega))
  have w81' : w4 81 = w 81 := funext (fun j => kw 81 j (by omega))
  generalize hq5 : setR (setR Q4 64 (updf (Q4 64) 17 (Q4 65 9))) 65 (updf (Q4 65) 1 0) = Q5
  have q5o : ∀ a, a ≠ 64 → a ≠ 65 → Q5 a = Q4 a := fun a h1 h2 => by rw [← hq5, setR_ne h2, setR_ne h1]
  have e5 : ∀ a, a ≠ 64 → a ≠ 65 → a ≠ 193 → ¬ (194 ≤ a ∧ a ≤ 196) → Q5 a = Q a := fun a h1 h2 h3 h4 => by rw [q5o a h1 h2, kq a h2 h3 h4]
  have e5' : setR (setR Q4 64 (updf (Q4 64) ((17 : Nat) : Int) (Q4 65 9))) 65 (updf (setR Q4 64 (updf (Q4 64) ((17 : Nat) : Int) (Q4 65 9)) 65) ((1 : Nat) : Int) 0) = Q5 := by
    rw [setR_ne (b := 65) (a := 64) (by omega), ← hq5]
    rfl
  have s1 : Q5 65 1 = 0 := by rw [← hq5, setR_same, updf_same rfl]
  have s17 : Q5 64 17 = Q4 65 9 := by rw [← hq5, setR_ne (by omega), setR_same, updf_same rfl]
  rcases c4 with ⟨L, hL, l1, l2, g1, g2, g3, f1, f2⟩ | ⟨l1, l2, fl⟩
  · rw [l1, bd0_s] at ecr
    rw [l2, bd0_s, cs2_r] at emr
    have h66 : R4 66 = R 66 := km 66 (by omega) (by omega)
    rw [e66] at g3
    have c5 := C_copyLife (S := S) (Q := Q5) (w := w4) hS c3 isLife112 isLife104 (by omega)
    have cl5 : CL 104 Q5 (R 66) := CL_q cl (fun a h1 h2 => e5 a (by omega) (by omega) (by omega) (by omega))
    have cl6 := CL_cp (l := 112) (l' := 104) (by omega) (by omega) cl5
    have o6 := FrL_cp (l := 112) (l' := 104) (Q := Q5)
    generalize hQ6 : cpLife 112 104 Q5 = Q6 at *
    generalize hQ7 : setR Q6 193 (updf (updf (updf (Q6 193) 6 1) 7 0) 8 0) = Q7
    have q7o : ∀ a, a ≠ 193 → Q7 a = Q6 a := fun a ha => by rw [← hQ7, setR_ne ha]
    have q7j : ∀ j, j ≠ 6 → j ≠ 7 → j ≠ 8 → Q7 193 j = Q4 193 j := fun j h1 h2 h3 => by rw [← hQ7, setR_same, updf_ne h3, updf_ne h2, updf_ne h1, o6 193 (by omega), q5o 193 (by omega) (by omega)]
    have la := M_layAside (S := S') (R := R4) (w := v4) hS' hr'
    rw [h66] at la
    generalize hR5 : setR R4 70 (cpf (R4 70) (R 66) 0 102 39) = R5 at *
    have r5o : ∀ a, a ≠ 70 → R5 a = R4 a := fun a ha => by rw [← hR5, setR_ne ha]
    have r566 : R5 66 = R 66 := by rw [r5o 66 (by omega), h66]
    have r570 : R5 70 = cpf (R4 70) (R 66) 0 102 39 := by rw [← hR5, setR_same]
    have ln5 : LNR Q7 R5 (R5 66) L := by
      intro i h1 h2
      rw [q7o 194 (by omega), q7o 195 (by omega), q7o 196 (by omega), o6 194 (by omega), o6 195 (by omega), o6 196 (by omega), q5o 194 (by omega) (by omega), q5o 195 (by omega) (by omega), q5o 196 (by omega) (by omega), r5o 79 (by omega), r566]
      exact g3 i h1 h2
    have cp7 : CP 67 Q7 (R5 66) := by
      rw [r566]
      exact CP_q cp (fun a h1 h2 => by rw [q7o a (by omega), o6 a (by omega), e5 a (by omega) (by omega) (by omega) (by omega)])
    have cl7 : CL 112 Q7 (R5 66) := by
      rw [r566]
      exact CL_q cl6 (fun a h1 h2 => q7o a (by omega))
    obtain ⟨Q8, R6, k1, wv, j1, j2, ⟨j3, j3'⟩, j4, j5, j6, j7, j8, j9, j10, j11⟩ := JLOOP (S := S) (S' := S') (w := w4) (v := v4) (rf := rf4) (rm := rm) (L := L) (x1 := I x) hS hS' c3 hr' (by omega) L 0 Q7 R5 1000 1000 (by omega) (by omega) (by omega) (by rw [← hQ7, setR_same, updf_ne (by omega), updf_same rfl]) (by rw [← hQ7, setR_same, updf_same rfl]; rfl) (by rw [q7j 5 (by omega) (by omega) (by omega)]; exact g1) (by rw [r5o 64 (by omega)]; exact g2) ln5 (by rw [r566]; exact wf) (by rw [r566]; exact lo) cp7 cl7
    rw [r566] at j8 j9
    generalize hQ9 : setR Q8 193 (updf (updf (Q8 193) 9 (R6 66 102)) 10 (R6 66 104)) = Q9
    have q9o : ∀ a, a ≠ 193 → Q9 a = Q8 a := fun a ha => by rw [← hQ9, setR_ne ha]
    have e9 : ∀ a, a ≠ 64 → a ≠ 65 → ¬ (112 ≤ a ∧ a ≤ 119) → ¬ (193 ≤ a ∧ a ≤ 196) → Q9 a = Q a := fun a h1 h2 h3 h4 => by
      rw [q9o a (by omega), j10.1 a h3 (by omega), q7o a (by omega), o6 a (by omega), e5 a h1 h2 (by omega) (by omega)]
    have q95 : ∀ a, a = 64 ∨ a = 65 → Q9 a = Q5 a := fun a h1 => by rw [q9o a (by omega), j10.1 a (by omega) (by omega), q7o a (by omega), o6 a (by omega)]
    have j66 : (Q8 112 1 = R6 66 102) ∧ (Q8 112 2 = R6 66 104) := ⟨j6.1.1, j6.1.2.1⟩
    have cj : fX6_judge S (mk Q6 w4 rf4) 193 112 = some (I (ii (wv = 0) (-1) k1), mk Q9 w4 rf4) := by
      have e7 : (wZ (mk Q6 w4 rf4) 193 6 (1 : Int32) fun τ1 => wI τ1 193 7 (0 : Int32) fun τ2 => wI τ2 193 8 (0 : Int32) fun τ3 => some τ3) = some (mk Q7 w4 rf4) := by
        rw [show (1 : Int32) = I 1 from rfl, show (0 : Int32) = I 0 from rfl, wZ_mk (Or.inr rfl), wI_mk, wI_mk, ← hQ7]
        simp only [setR_same, setR_setR]
        rfl
      have e8 : fX6_judge S (mk Q6 w4 rf4) 193 112 = bd0 (wZ (mk Q6 w4 rf4) 193 6 (1 : Int32) fun τ1 => wI τ1 193 7 (0 : Int32) fun τ2 => wI τ2 193 8 (0 : Int32) fun τ3 => some τ3) fun τ3 => bd0 (loopN (fX6_judge_L15 S 193 112) 1000 τ3) (fun τ5 => fX6_judge_b148 S τ5 193 112) := rfl
      rw [e8, e7, bd0_s, j1, bd0_s]
      simp (disch := first | assumption | omega) only [fX6_judge_b148, fX6_judge_b179, I_lit, orb_I, I_add, I_sub, I_mul, I_neg, nm_eq, bd0_s, bd2_s, un2_eq, un3_eq, un4_eq, un5_eq, un6_eq, cs2_l, cs2_r, mk_1, mk_2, wI_mk, wL_mk, wR_mk, setR_same, setR_setR, rZ_0, rZ_1, rZ_b2, it_b2, it_nb2, it_b21, it_nb21, I_lt, I_le, I_eq, I_div, castI, if_true, if_false, Classical.not_not, j66.1, setR_ne, j66.2, updf_ne, j3, j3', hQ9]
      have q97 : Q9 193 7 = wv := by rw [← hQ9, setR_same, updf_ne (by omega), updf_ne (by omega), j3]
      have q98 : Q9 193 8 = k1 := by rw [← hQ9, setR_same, updf_ne (by omega), updf_ne (by omega), j3']
      rw [q97, q98]
      by_cases hw : wv = 0
      · rw [ii_t hw, hw, if_neg (fun h => h rfl)]
      · rw [ii_f hw, if_pos (by rw [I_eq (by omega) (by omega)]; exact hw)]
    -- the reference, up to stay
    generalize hR7 : setR (setR R6 80 (updf (updf (updf (updf (R6 80) 0 wv) 1 k1) 2 (R6 66 102)) 3 (R6 66 104))) 64 (updf (R6 64) 37 1) = R7
    have r7o : ∀ a, a ≠ 64 → a ≠ 80 → R7 a = R6 a := fun a h1 h2 => by rw [← hR7, setR_ne h1, setR_ne h2]
    have r6o : ∀ a, a ≠ 66 → a ≠ 70 → R6 a = R4 a := fun a h1 h2 => by rw [j11 a h1, r5o a h2]
    have mj : ∀ F, (gR (mk R6 v4 rm) 64 35 fun r1 => stI S' (mk R6 v4 rm) r1 (0 : Int32) (I wv) fun τ2 => gR τ2 64 35 fun r3 => stI S' τ2 r3 (1 : Int32) (I k1) fun τ4 => gR τ4 64 35 fun r5 => gR τ4 64 14 fun r6 => ldI S' τ4 r6 (102 : Int32) fun v7 => stI S' τ4 r5 (2 : Int32) v7 fun τ8 => gR τ8 64 35 fun r9 => gR τ8 64 14 fun r10 => ldI S' τ8 r10 (104 : Int32) fun v11 => stI S' τ8 r9 (3 : Int32) v11 fun τ12 => wZ τ12 64 37 (1 : Int32) F) = (F (mk R7 v4 rm) : Option (Int32 × mm)) := by
      intro F
      simp (disch := first | assumption | omega) only [I_lit, orb_I, I_add, I_sub, I_mul, I_neg, nm_eq, bd0_s, bd2_s, un2_eq, un3_eq, un4_eq, un5_eq, un6_eq, cs2_l, cs2_r, mk_1, mk_2, wI_mk, wL_mk, wR_mk, setR_same, setR_setR, rZ_0, rZ_1, rZ_b2, it_b2, it_nb2, it_b21, it_nb21, I_lt, I_le, I_eq, I_div, castI, if_true, if_false, Classical.not_not, gM35, gM14, stM80, ldM66, setR_ne]
      rw [wZ_mk (Or.inr rfl), ← hR7, setR_ne (b := 64) (a := 80) (by omega)]
      rfl
    have swap := M_swap (S := S') (R := R7) (w := v4) (x1 := I (ii (x = 1 ∧ 0 < k1) 1 0)) hS' hr'
    have r766 : R7 66 = R6 66 := r7o 66 (by omega) (by omega)
    have r770 : R7 70 = cpf (R4 70) (R 66) 0 102 39 := by rw [r7o 70 (by omega) (by omega), j11 70 (by omega), r570]
    have back : cpf (R7 66) (R7 70) 102 0 39 = R 66 := by
      rw [r766, r770]
      funext j
      by_cases h1 : 102 ≤ j ∧ j < 102 + 39
      · rw [cpf_in (k := j - 102) h1 (by omega), cpf_in (k := j) (by omega) (by omega)]
      · rw [cpf_out h1]
        by_cases h2 : j < 102
        · exact j8 j h2
        · exact j9 j (by omega)
    rw [back] at swap
    generalize hR8 : setR (setR R7 66 (R 66)) 70 (cpf (R7 70) (R7 66) 0 102 39) = R8 at *
    have r866 : R8 66 = R 66 := by rw [← hR8, setR_ne (by omega), setR_same]
    have r870 : R8 70 = cpf (R7 70) (R7 66) 0 102 39 := by rw [← hR8, setR_same]
    have r8o : ∀ a, a ≠ 66 → a ≠ 70 → R8 a = R7 a := fun a h1 h2 => by rw [← hR8, setR_ne h2, setR_ne h1]
    have r8R : ∀ a, a ≠ 64 → a ≠ 66 → a ≠ 70 → a ≠ 79 → a ≠ 80 → R8 a = R a := fun a h1 h2 h3 h4 h5 => by rw [r8o a h2 h3, r7o a h1 h5, r6o a h2 h3, km a h1 h4]
    have r864 : ∀ j, j ≠ 37 → R8 64 j = R4 64 j := fun j hj => by rw [r8o 64 (by omega) (by omega), ← hR7, setR_same, updf_ne hj, r6o 64 (by omega) (by omega)]
    have r8j : ∀ j, 13 < j → j ≠ 36 → j ≠ 37 → R8 64 j = R 64 j := fun j h1 h2 h3 => by rw [r864 j h3, k64 j h1 h2]
    have r8_37 : R8 64 37 = 1 := by rw [r8o 64 (by omega) (by omega), ← hR7, setR_same, updf_same rfl]
    have r8_80 : R8 80 0 = wv ∧ R8 80 1 = k1 ∧ R8 80 2 = R6 66 102 ∧ R8 80 3 = R6 66 104 := by
      rw [r8o 80 (by omega) (by omega), ← hR7, setR_ne (by omega), setR_same]
      exact ⟨rfl, rfl, rfl, rfl⟩
    have rolN : rolR (Q9 193) 1 (R8 80) := by
      obtain ⟨z0, z1, z2, z3⟩ := r8_80
      have y6 : Q9 193 6 = 1 := by rw [← hQ9, setR_same, updf_ne (by omega), updf_ne (by omega), j10.2 6 (by omega) (by omega), ← hQ7, setR_same, updf_ne (by omega), updf_ne (by omega), updf_same rfl]
      refine ⟨y6, Or.inr rfl, fun _ => ⟨?_, ?_, ?_, ?_⟩⟩
      · rw [z0, ← hQ9, setR_same, updf_ne (by omega), updf_ne (by omega)]; exact j3
      · rw [z1, ← hQ9, setR_same, updf_ne (by omega), updf_ne (by omega)]; exact j3'
      · rw [z2, ← hQ9, setR_same, updf_ne (by omega), updf_same rfl]
      · rw [z3, ← hQ9, setR_same, updf_same rfl]
    have ecr2 : fX6_read S (mk Q w rf) 193 = some (1, mk Q4 w4 rf4) := by rw [ecr]; rfl
    have cmid : fX12_roll S (mk Q w rf) 64 (I x) = if ¬ (I x) = (1 : Int32) then some (I (ii (wv = 0) (-1) k1), mk Q9 w4 rf4) else if I k1 ≤ 0 then some (I (ii (wv = 0) (-1) k1), mk Q9 w4 rf4) else bd0 (fX9_keep S (mk Q9 w4 rf4) 120 104) fun τ18 => gR τ18 64 4 fun r19 => gR τ18 64 5 fun r20 => bd0 (fX3_copyFrom S τ18 r19 r20) fun τ21 => fX12_roll_b115 S τ21 (I (ii (wv = 0) (-1) k1)) := by
      have q98 : (mk Q9 w4 rf4).1 193 8 = I k1 := by rw [mk_1, castI, ← hQ9, setR_same, updf_ne (by omega), updf_ne (by omega), j3']
      rw [cpre]
      unfold fX12_roll_b13
      rw [gC64_9 hr, ecr2, bd2_p, gC64_0 c3, mk_1, castI, wI_mk, gC64_0 c3, show (0 : Int32) = I 0 from rfl, wI_mk, e5', if_pos (by decide), gC64_5 c3, gC64_4 c3, c5, bd0_s, gC64_9 c3, gC64_5 c3, cj, bd2_p, gC64_9 c3, q98, gC64_6 c3, gC64_4 c3]
      rfl
    have mmid : fX13_roll S' (mk Rz v rm) 64 (I x) = if ¬ (I x) = (1 : Int32) then fX13_roll_b162 S' (mk R7 v4 rm) (I k1) (I wv) 64 else if I k1 ≤ 0 then fX13_roll_b162 S' (mk R7 v4 rm) (I k1) (I wv) 64 else fX13_roll_b163 S' (mk R7 v4 rm) (I k1) (I wv) 64 (1 : Int32) := by
      have j2' : loopN (fX13_roll_L73 S' 64 (I x)) 1000 ((0 : Int32), (0 : Int32), mk R5 v4 rm) = some (I k1, I wv, mk R6 v4 rm) := j2
      rw [emr, la, bd0_s, j2', bd0_s, un3_eq]
      unfold fX13_roll_b103
      rw [mj]
    have val : ∀ τ : mm, (if ¬ I wv = 0 then fX13_roll_b175 S' τ (I k1) else fX13_roll_b175 S' τ (-1 : Int32)) = some (I (ii (wv = 0) (-1) k1), τ) := by
      intro τ
      by_cases hw : wv = 0
      · rw [ii_t hw, hw, if_neg (fun h => h rfl)]
        rfl
      · rw [ii_f hw, if_pos (by rw [I_lit, I_eq (by omega) (by omega)]; exact hw)]
        rfl
    by_cases st : x = 1 ∧ 0 < k1
    · -- it is lived
      have x1e : I x = (1 : Int32) := by rw [st.1]; rfl
      have k0 : ¬ (I k1 ≤ 0) := by rw [I_lit, I_le (by omega) (by omega)]; omega
      rw [if_neg (fun h => h x1e), if_neg k0] at cmid mmid
      have ur9 : UR Q9 rf4 (R 64 23) (R 66) (R 69) := UR_q ur wf (fun a h => e9 a (by omega) (by omega) (by omega) (by omega)) (kr' 121 (by omega)) (AgP_refl _)
      have cl9 : CL 104 Q9 (R 66) := CL_q cl (fun a h1 h2 => e9 a (by omega) (by omega) (by omega) (by omega))
      obtain ⟨Qa, rfa, d1, d2, d3, d4, d5⟩ := C_keep (S := S) (w := w4) hS c3 wf cl9 lo ur9
      have hra : RCok rfa := RCok_of c3 (fun a j h => d4 a j h.1)
      have c7 := C_copyLife (S := S) (Q := Qa) (w := w4) hS hra isLife104 isLife112 (by omega)
      have cl112 : CL 112 Qa (R6 66) := CL_q j6 (fun a h1 h2 => by rw [d3 a (by omega), q9o a (by omega)])
      have n60 : R6 66 0 = R 66 0 := j8 0 (by omega)
      have n61 : R6 66 1 = R 66 1 := j8 1 (by omega)
      have clb := CL_cp (l := 104) (l' := 112) (by omega) (by omega) cl112
      have ob := FrL_cp (l := 104) (l' := 112) (Q := Qa)
      generalize hQb : cpLife 104 112 Qa = Qb' at *
      have un := ur.2.1
      have ms := M_snap (S := S') (R := R8) (w := v4) (n := R 64 23) hS' hr' (r8j 23 (by omega) (by omega) (by omega)) un
      rw [r866, r8R 69 (by omega) (by omega) (by omega) (by omega) (by omega)] at ms
      generalize hR9 : setR (setR R8 69 (snS (R 69) (R 66) (R 64 23))) 64 (updf (R8 64) 23 (snn (R 64 23))) = R9 at *
      have r9o : ∀ a, a ≠ 64 → a ≠ 69 → R9 a = R8 a := fun a h1 h2 => by rw [← hR9, setR_ne h1, setR_ne h2]
      have mt := M_takeBack (S := S') (R := R9) (w := v4) hS' hr'
      have fwd : cpf (R9 66) (R9 70) 102 0 39 = R6 66 := by
        rw [r9o 66 (by omega) (by omega), r9o 70 (by omega) (by omega), r866, r870, r766]
        funext j
        by_cases h1 : 102 ≤ j ∧ j < 102 + 39
        · rw [cpf_in (k := j - 102) h1 (by omega), cpf_in (k := j) (by omega) (by omega)]
        · rw [cpf_out h1]
          by_cases h2 : j < 102
          · exact (j8 j h2).symm
          · exact (j9 j (by omega)).symm
      rw [fwd] at mt
      have eX : ∀ a, a ≠ 64 → a ≠ 65 → ¬ (104 ≤ a ∧ a ≤ 119) → ¬ (120 ≤ a ∧ a ≤ 185) → ¬ (193 ≤ a ∧ a ≤ 196) → Qb' a = Q a := fun a h1 h2 h3 h4 h5 => by rw [ob a (by omega), d3 a (by omega), e9 a h1 h2 (by omega) h5]
      have eY : ∀ a, ¬ (104 ≤ a ∧ a ≤ 119) → ¬ (120 ≤ a ∧ a ≤ 185) → Qb' a = Q9 a := fun a h3 h4 => by rw [ob a (by omega), d3 a (by omega)]
      generalize hRa : setR R9 66 (R6 66) = Ra at *
      have ra66 : Ra 66 = R6 66 := by rw [← hRa, setR_same]
      have rao : ∀ a, a ≠ 66 → Ra a = R9 a := fun a ha => by rw [← hRa, setR_ne ha]
      have raR : ∀ a, a ≠ 64 → a ≠ 66 → a ≠ 69 → a ≠ 70 → a ≠ 79 → a ≠ 80 → Ra a = R a := fun a h1 h2 h3 h4 h5 h6 => by rw [rao a h2, r9o a h1 h3, r8R a h1 h2 h4 h5 h6]
      have ra64 : ∀ j, j ≠ 23 → Ra 64 j = R8 64 j := fun j hj => by rw [rao 64 (by omega), ← hR9, setR_same, updf_ne hj]
      have raj : ∀ j, 13 < j → j ≠ 23 → j ≠ 36 → j ≠ 37 → Ra 64 j = R 64 j := fun j h1 h2 h3 h4 => by rw [ra64 j h2, r8j j h1 h3 h4]
      have kra : ∀ a, a ≠ 65 → a ≠ 121 → rfa a = rf a := fun a h1 h2 => funext (fun j => by rw [d4 a j h2, kr a j (by omega)])
      refine ⟨I (ii (wv = 0) (-1) k1), mk Qb' w4 rfa, mk Ra v4 rm, ?_, ?_, Qb', w4, rfa, Ra, v4, rm, rfl, rfl, hra, hr', ⟨?_, ⟨?_, ?_, ?_⟩, ⟨?_, ?_⟩, ?_, ?_, ?_, ?_, ?_, ?_, ?_⟩, ?_⟩
      · show fX12_roll S (mk Q w rf) 64 (I x) = _
        rw [cmid, d1, bd0_s, gC64_4 hra, gC64_5 hra, c7, bd0_s]
        rfl
      · show fX13_roll S' (mk Rz v rm) 64 (I x) = _
        rw [ii_t st] at swap
        have swap' : loopN (fX13_stay_L2 S' 64 1) 1000 ((0 : Int32), mk R7 v4 rm) = some (mk R8 v4 rm) := swap
        rw [mmid]
        unfold fX13_roll_b163 fX13_stay
        rw [swap', bd0_s, if_pos (by decide), ms, bd0_s, mt, bd0_s, bd0_s, val]
      · refine ⟨?_, ?_, ?_⟩
        · rw [eY 65 (by omega) (by omega), q95 65 (by omega), s1, ra64 2 (by omega), r864 2 (by omega), k2]
        · rw [ra64 2 (by omega), r864 2 (by omega), k2]; omega
        · intro i h1 h2
          rw [ra64 2 (by omega), r864 2 (by omega), k2] at h2
          omega
      · rw [ra66]; exact WFP_ag wf j8
      · rw [ra66]; exact CP_fr (CP_q cp (fun a h1 h2 => eX a (by omega) (by omega) (by omega) (by omega) (by omega))) wf isLife104 (FrL_refl 104 _) j8
      · rw [ra66, w68', w74', w81', v71']
        unfold namR
        rw [j8 0 (by omega), j8 1 (by omega), j8 2 (by omega)]
        exact nam
      · rw [ra66]; exact j7
      · rw [ra66]; exact clb
      · have e69 : Ra 69 = snS (R 69) (R 66) (R 64 23) := by rw [rao 69 (by omega), ← hR9, setR_ne (by omega), setR_same]
        have e23 : Ra 64 23 = snn (R 64 23) := by rw [rao 64 (by omega), ← hR9, setR_same, updf_same rfl]
        rw [e69, e23, ra66]
        exact UR_q d2 wf (fun b hb => ob b (by omega)) rfl j8
      · rw [eY 64 (by omega) (by omega), q95 64 (by omega), s17, f1, ra64 10 (by omega), r864 10 (by omega), f2]
      · rw [eX 189 (by omega) (by omega) (by omega) (by omega) (by omega), eX 192 (by omega) (by omega) (by omega) (by omega) (by omega), raj 28 (by omega) (by omega) (by omega) (by omega), raR 77 (by omega) (by omega) (by omega) (by omega) (by omega) (by omega)]; exact wk
      · have e80 : Ra 80 = R8 80 := by rw [rao 80 (by omega), r9o 80 (by omega) (by omega)]
        rw [eY 193 (by omega) (by omega), ra64 37 (by omega), r8_37, e80]; exact rolN
      · rw [eX 199 (by omega) (by omega) (by omega) (by omega) (by omega), eX 200 (by omega) (by omega) (by omega) (by omega) (by omega), eX 197 (by omega) (by omega) (by omega) (by omega) (by omega), kra 198 (by omega) (by omega), ra66]; exact senR_ag se j9
      · rw [raR 68 (by omega) (by omega) (by omega) (by omega) (by omega) (by omega), raR 74 (by omega) (by omega) (by omega) (by omega) (by omega) (by omega), v73]
        exact imgR_q im (fun a h => eX a (by omega) (by omega) (by omega) (by omega) (by omega)) (fun a h => funext (fun j => kw a j (by omega))) (kra 238 (by omega) (by omega)) (kra 268 (by omega) (by omega))
      · rw [kra 198 (by omega) (by omega), kra 202 (by omega) (by omega), kra 238 (by omega) (by omega), kra 268 (by omega) (by omega)]
        exact ⟨sw1, sw2, sw3, sw4⟩
      · rw [raj 32 (by omega) (by omega) (by omega) (by omega), raR 78 (by omega) (by omega) (by omega) (by omega) (by omega) (by omega)]; exact tx
    · -- it is not
      rw [ii_f st] at swap
      have swap' : loopN (fX13_stay_L2 S' 64 0) 1000 ((0 : Int32), mk R7 v4 rm) = some (mk R8 v4 rm) := swap
      have m162 : fX13_roll_b162 S' (mk R7 v4 rm) (I k1) (I wv) 64 = some (I (ii (wv = 0) (-1) k1), mk R8 v4 rm) := by
        unfold fX13_roll_b162 fX13_roll_b163 fX13_stay
        rw [swap', bd0_s, if_neg (by decide), bd0_s, val]
      have cm : fX12_roll S (mk Q w rf) 64 (I x) = some (I (ii (wv = 0) (-1) k1), mk Q9 w4 rf4) ∧ fX13_roll S' (mk Rz v rm) 64 (I x) = some (I (ii (wv = 0) (-1) k1), mk R8 v4 rm) := by
        by_cases x1 : x = 1
        · have x1e : I x = (1 : Int32) := by rw [x1]; rfl
          have k0 : I k1 ≤ 0 := by rw [I_lit, I_le (by omega) (by omega)]; omega
          exact ⟨by rw [cmid, if_neg (fun h => h x1e), if_pos k0], by rw [mmid, if_neg (fun h => h x1e), if_pos k0, m162]⟩
        · have x1e : ¬ (I x = (1 : Int32)) := by rw [I_lit, I_eq (by omega) (by omega)]; exact x1
          exact ⟨by rw [cmid, if_pos x1e], by rw [mmid, if_pos x1e, m162]⟩
      refine ⟨I (ii (wv = 0) (-1) k1), mk Q9 w4 rf4, mk R8 v4 rm, cm.1, cm.2, Q9, w4, rf4, R8, v4, rm, rfl, rfl, c3, hr', ⟨?_, ⟨?_, ?_, ?_⟩, ⟨?_, ?_⟩, ?_, ?_, ?_, ?_, ?_, ?_, ?_⟩, ?_⟩
      · refine ⟨?_, ?_, ?_⟩
        · rw [q95 65 (by omega), s1, r864 2 (by omega), k2]
        · rw [r864 2 (by omega), k2]; omega
        · intro i h1 h2
          rw [r864 2 (by omega), k2] at h2
          omega
      · rw [r866]; exact wf
      · rw [r866]; exact CP_q cp (fun a h1 h2 => e9 a (by omega) (by omega) (by omega) (by omega))
      · rw [r866, w68', w74', w81', v71']; exact nam
      · rw [r866]; exact lo
      · rw [r866]; exact CL_q cl (fun a h1 h2 => e9 a (by omega) (by omega) (by omega) (by omega))
      · rw [r8j 23 (by omega) (by omega) (by omega), r866, r8R 69 (by omega) (by omega) (by omega) (by omega) (by omega)]
        exact UR_q ur wf (fun a h => e9 a (by omega) (by omega) (by omega) (by omega)) (kr' 121 (by omega)) (AgP_refl _)
      · rw [q95 64 (by omega), s17, f1, r864 10 (by omega), f2]
      · rw [e9 189 (by omega) (by omega) (by omega) (by omega), e9 192 (by omega) (by omega) (by omega) (by omega), r8j 28 (by omega) (by omega) (by omega), r8R 77 (by omega) (by omega) (by omega) (by omega) (by omega)]; exact wk
      · rw [r8_37]; exact rolN
      · rw [e9 199 (by omega) (by omega) (by omega) (by omega), e9 200 (by omega) (by omega) (by omega) (by omega), e9 197 (by omega) (by omega) (by omega) (by omega), kr' 198 (by omega), r866]; exact se
      · rw [r8R 68 (by omega) (by omega) (by omega) (by omega) (by omega), r8R 74 (by omega) (by omega) (by omega) (by omega) (by omega), v73]
        exact imgR_q im (fun a h => e9 a (by omega) (by omega) (by omega) (by omega)) (fun a h => funext (fun j => kw a j (by omega))) (kr' 238 (by omega)) (kr' 268 (by omega))
      · rw [kr' 198 (by omega), kr' 202 (by omega), kr' 238 (by omega), kr' 268 (by omega)]
        exact ⟨sw1, sw2, sw3, sw4⟩
      · rw [r8j 32 (by omega) (by omega) (by omega), r8R 78 (by omega) (by omega) (by omega) (by omega) (by omega)]; exact tx
  · rw [l1, bd0_s] at ecr
    rw [l2, bd0_s, cs2_l] at emr
    obtain ⟨g1, g2, g3, g4⟩ := fl
    have ecr2 : fX6_read S (mk Q w rf) 193 = some (0, mk Q4 w4 rf4) := by rw [ecr]; rfl
    have q510 : (mk Q5 w4 rf4).1 65 10 = I (R4 64 11) := by rw [mk_1, castI, ← hq5, setR_same, updf_ne (by omega), g2]
    have em2 : fX13_roll S' (mk Rz v rm) 64 (I x) = some (I (-2 - R4 64 11), mk R4 v4 rm) := by
      rw [emr, mk_1, castI, show (-2 : Int32) = I (-2) from rfl, I_sub]
    refine ⟨I (-2 - R4 64 11), mk Q5 w4 rf4, mk R4 v4 rm, ?_, em2, Q5, w4, rf4, R4, v4, rm, rfl, rfl, c3, hr', ⟨?_, ⟨?_, ?_, ?_⟩, ⟨?_, ?_⟩, ?_, ?_, ?_, ?_, ?_, ?_, ?_⟩, ?_⟩
    · show fX12_roll S (mk Q w rf) 64 (I x) = _
      rw [cpre]
      unfold fX12_roll_b13
      rw [gC64_9 hr, ecr2, bd2_p, gC64_0 c3, mk_1, castI, wI_mk, gC64_0 c3, show (0 : Int32) = I 0 from rfl, wI_mk, e5', if_neg (fun h => h rfl), gC64_0 c3, q510, show (-2 : Int32) = I (-2) from rfl, I_sub]
    · exact ⟨by rw [s1, k2], by omega, fun i h1 h2 => by omega⟩
    · rw [km 66 (by omega) (by omega)]; exact wf
    · rw [km 66 (by omega) (by omega)]; exact CP_q cp (fun a h1 h2 => e5 a (by omega) (by omega) (by omega) (by omega))
    · rw [km 66 (by omega) (by omega), w68', w74', w81', v71']; exact nam
    · rw [km 66 (by omega) (by omega)]; exact lo
    · rw [km 66 (by omega) (by omega)]; exact CL_q cl (fun a h1 h2 => e5 a (by omega) (by omega) (by omega) (by omega))
    · rw [k64 23 (by omega) (by omega), km 66 (by omega) (by omega), km 69 (by omega) (by omega)]
      exact UR_q ur wf (fun a h => e5 a (by omega) (by omega) (by omega) (by omega)) (kr' 121 (by omega)) (AgP_refl _)
    · rw [s17]; exact g1
    · rw [e5 189 (by omega) (by omega) (by omega) (by omega), e5 192 (by omega) (by omega) (by omega) (by omega), k64 28 (by omega) (by omega), km 77 (by omega) (by omega)]; exact wk
    · rw [k64 37 (by omega) (by omega), km 80 (by omega) (by omega), q5o 193 (by omega) (by omega)]
      unfold rolR
      rw [kq193 6 (by omega), kq193 7 (by omega), kq193 8 (by omega), kq193 9 (by omega), kq193 10 (by omega)]
      exact ro
    · rw [e5 199 (by omega) (by omega) (by omega) (by omega), e5 200 (by omega) (by omega) (by omega) (by omega), e5 197 (by omega) (by omega) (by omega) (by omega), kr' 198 (by omega), km 66 (by omega) (by omega)]; exact se
    · rw [km 68 (by omega) (by omega), km 74 (by omega) (by omega), v73]
      exact imgR_q im (fun a h => e5 a (by omega) (by omega) (by omega) (by omega)) (fun a h => funext (fun j => kw a j (by omega))) (kr' 238 (by omega)) (kr' 268 (by omega))
    · rw [kr' 198 (by omega), kr' 202 (by omega), kr' 238 (by omega), kr' 268 (by omega)]
      exact ⟨sw1, sw2, sw3, sw4⟩
    · rw [k64 32 (by omega) (by omega), km 78 (by omega) (by omega)]; exact tx
